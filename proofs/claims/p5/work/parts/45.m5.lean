/-! STEP ROWS of the reference. By program (wip/wp/gen_parts.py). -/
theorem eX11_coreOf_0 : decode cX11_coreOf 0 = .ok (.lload_n 1, 1) := by decide +kernel
theorem eX11_coreOf_1 : decode cX11_coreOf 1 = .ok (.lstore_n 3, 1) := by decide +kernel
theorem eX11_coreOf_2 : decode cX11_coreOf 2 = .ok (.iconst 0, 1) := by decide +kernel
theorem eX11_coreOf_3 : decode cX11_coreOf 3 = .ok (.istore 5, 2) := by decide +kernel
theorem eX11_coreOf_5 : decode cX11_coreOf 5 = .ok (.iload 5, 2) := by decide +kernel
theorem eX11_coreOf_7 : decode cX11_coreOf 7 = .ok (.aload_n 0, 1) := by decide +kernel
theorem eX11_coreOf_8 : decode cX11_coreOf 8 = .ok (.getfield 20, 3) := by decide +kernel
theorem eX11_coreOf_11 : decode cX11_coreOf 11 = .ok (.aload_n 0, 1) := by decide +kernel
theorem eX11_coreOf_12 : decode cX11_coreOf 12 = .ok (.getfield 321, 3) := by decide +kernel
theorem eX11_coreOf_15 : decode cX11_coreOf 15 = .ok (.iaload, 1) := by decide +kernel
theorem eX11_coreOf_16 : decode cX11_coreOf 16 = .ok (.if_icmp .ge 48, 3) := by decide +kernel
theorem eX11_coreOf_19 : decode cX11_coreOf 19 = .ok (.lload_n 3, 1) := by decide +kernel
theorem eX11_coreOf_20 : decode cX11_coreOf 20 = .ok (.iload 5, 2) := by decide +kernel
theorem eX11_coreOf_22 : decode cX11_coreOf 22 = .ok (.lshr, 1) := by decide +kernel
theorem eX11_coreOf_23 : decode cX11_coreOf 23 = .ok (.lconst 1, 1) := by decide +kernel
theorem eX11_coreOf_24 : decode cX11_coreOf 24 = .ok (.land, 1) := by decide +kernel
theorem eX11_coreOf_25 : decode cX11_coreOf 25 = .ok (.lconst 1, 1) := by decide +kernel
theorem eX11_coreOf_26 : decode cX11_coreOf 26 = .ok (.lcmp, 1) := by decide +kernel
theorem eX11_coreOf_27 : decode cX11_coreOf 27 = .ok (.ifCond .ne 31, 3) := by decide +kernel
theorem eX11_coreOf_30 : decode cX11_coreOf 30 = .ok (.aload_n 0, 1) := by decide +kernel
theorem eX11_coreOf_31 : decode cX11_coreOf 31 = .ok (.lload_n 3, 1) := by decide +kernel
theorem eX11_coreOf_32 : decode cX11_coreOf 32 = .ok (.lconst 1, 1) := by decide +kernel
theorem eX11_coreOf_33 : decode cX11_coreOf 33 = .ok (.iload 5, 2) := by decide +kernel
theorem eX11_coreOf_35 : decode cX11_coreOf 35 = .ok (.lshl, 1) := by decide +kernel
theorem eX11_coreOf_36 : decode cX11_coreOf 36 = .ok (.ldc2_w 473, 3) := by decide +kernel
theorem eX11_coreOf_39 : decode cX11_coreOf 39 = .ok (.lxor, 1) := by decide +kernel
theorem eX11_coreOf_40 : decode cX11_coreOf 40 = .ok (.land, 1) := by decide +kernel
theorem eX11_coreOf_41 : decode cX11_coreOf 41 = .ok (.invokevirtual 467, 3) := by decide +kernel
theorem eX11_coreOf_44 : decode cX11_coreOf 44 = .ok (.ifCond .eq 14, 3) := by decide +kernel
theorem eX11_coreOf_47 : decode cX11_coreOf 47 = .ok (.lload_n 3, 1) := by decide +kernel
theorem eX11_coreOf_48 : decode cX11_coreOf 48 = .ok (.lconst 1, 1) := by decide +kernel
theorem eX11_coreOf_49 : decode cX11_coreOf 49 = .ok (.iload 5, 2) := by decide +kernel
theorem eX11_coreOf_51 : decode cX11_coreOf 51 = .ok (.lshl, 1) := by decide +kernel
theorem eX11_coreOf_52 : decode cX11_coreOf 52 = .ok (.ldc2_w 473, 3) := by decide +kernel
theorem eX11_coreOf_55 : decode cX11_coreOf 55 = .ok (.lxor, 1) := by decide +kernel
theorem eX11_coreOf_56 : decode cX11_coreOf 56 = .ok (.land, 1) := by decide +kernel
theorem eX11_coreOf_57 : decode cX11_coreOf 57 = .ok (.lstore_n 3, 1) := by decide +kernel
theorem eX11_coreOf_58 : decode cX11_coreOf 58 = .ok (.iinc 5 1, 3) := by decide +kernel
theorem eX11_coreOf_61 : decode cX11_coreOf 61 = .ok (.goto (-56), 3) := by decide +kernel
theorem eX11_coreOf_64 : decode cX11_coreOf 64 = .ok (.lload_n 3, 1) := by decide +kernel
theorem eX11_coreOf_65 : decode cX11_coreOf 65 = .ok (.lreturn, 1) := by decide +kernel
def C_X11_coreOf (s : ST) (p : Int64) (Q : ST → Int64 → Prop) : Prop := bx <| RA s → q_met mX11_coreOf (qs layM s) [.ref 139, .long p] (PL layM Q)
theorem C_X11_coreOf.mono {s : ST} {p : Int64} {Q Q' : ST → Int64 → Prop} (h : C_X11_coreOf s p Q) (hq : ∀ s v, Q s v → Q' s v) : C_X11_coreOf s p Q' := ⟨fun hA => q_met.mono (h.1 hA) (fun _ _ => PL.mono hq), trivial⟩
def K_X11_coreOf_5 (s : ST) (a3 : Int64) (a5 : Int) (Q : ST → Int64 → Prop) : Prop := bx <| RA s → R32 a5 → q_K mX11_coreOf (qs layM s) 0 0 5 [(0, .ref 139), (3, .long a3), (5, .int (Int32.ofInt a5))] [] (q_fin mX11_coreOf (PL layM Q))
set_option maxRecDepth 20000 in
theorem s_X11_coreOf_5 {s : ST} {a3 : Int64} {a5 : Int} {Q : ST → Int64 → Prop} (h : RA s → R32 a5 → (((0 : Int) ≤ s.1 139 28 ∧ s.1 139 28 < 6) ∧ ((s.1 142 (s.1 139 28) ≤ a5 → Q s a3) ∧ (¬ s.1 142 (s.1 139 28) ≤ a5 → ((¬ ((lshr a3 a5) &&& 1) = 1 → (R32 (a5 + 1) ∧ K_X11_coreOf_5 s a3 (a5 + 1) Q)) ∧ (((lshr a3 a5) &&& 1) = 1 → (C_X11_clash s (a3 &&& ((lshl 1 a5) ^^^ (-1))) (fun s3 v3 => (v3 = 0 ∨ v3 = 1) → ((v3 = 0 → (R32 (a5 + 1) ∧ K_X11_coreOf_5 s3 a3 (a5 + 1) Q)) ∧ (¬ v3 = 0 → (R32 (a5 + 1) ∧ K_X11_coreOf_5 s3 (a3 &&& ((lshl 1 a5) ^^^ (-1))) (a5 + 1) Q))))))))))) : K_X11_coreOf_5 s a3 a5 Q := by
  refine ⟨?_, trivial⟩
  intro hA hra5
  have h := h hA hra5
  refine q_iload eX11_coreOf_5 rfl ?_
  refine q_aload_n eX11_coreOf_7 rfl ?_
  refine q_getR (c := 11) (n := 0) (k := 11) (a := 142) eX11_coreOf_8 rfl (by decide) (by decide) fX11_20 rfl rfl ?_
  refine q_aload_n eX11_coreOf_11 rfl ?_
  refine q_getf (c := 11) (n := 0) (k := 28) (v := .int (Int32.ofInt (s.1 139 28))) eX11_coreOf_12 rfl (by decide) (by decide) fX11_321 rfl ?_
  have f1 := h.1
  have h := h.2
  refine z_iald (n := 6) eX11_coreOf_15 rfl (ofz (hA _ _)) f1 ?_
  refine q_topI (v := Int32.ofInt (s.1 142 (s.1 139 28))) rfl ?_
  refine q_cz_ge (tgt := 64) (a := a5) (b := s.1 142 (s.1 139 28)) eX11_coreOf_16 (by decide) (ofz hra5) (ofz (hA _ _)) (fun c16 => ?_) (fun c16 => ?_)
  · have h := h.1 c16
    refine q_lload_n eX11_coreOf_64 rfl ?_
    exact q_lret eX11_coreOf_65 rfl ⟨_, _, rfl, hA, rfl, h⟩
  · have h := h.2 c16
    refine q_lload_n eX11_coreOf_19 rfl ?_
    refine q_iload eX11_coreOf_20 rfl ?_
    refine z_lshr eX11_coreOf_22 ?_
    refine q_lc (v := 1) eX11_coreOf_23 rfl ?_
    refine q_land eX11_coreOf_24 ?_
    refine q_lc (v := 1) eX11_coreOf_25 rfl ?_
    refine q_lcmp eX11_coreOf_26 ?_
    refine z_lc_ne (tgt := 58) eX11_coreOf_27 (by decide) (fun c27 => ?_) (fun c27 => ?_)
    · have h := h.1 c27
      have r2 := h.1
      have h := h.2
      refine z_inc (m := 1) eX11_coreOf_58 rfl (Nat.le_of_ble_eq_true rfl) rfl ?_
      refine q_goto (tgt := 5) eX11_coreOf_61 (by decide) ?_
      exact q_subL rfl (h.1 hA r2)
    · have h := h.2 c27
      refine q_aload_n eX11_coreOf_30 rfl ?_
      refine q_lload_n eX11_coreOf_31 rfl ?_
      refine q_lc (v := 1) eX11_coreOf_32 rfl ?_
      refine q_iload eX11_coreOf_33 rfl ?_
      refine z_lshl eX11_coreOf_35 ?_
      refine q_ldc2 (v := (-1)) eX11_coreOf_36 nX11_473 ?_
      refine q_lxor eX11_coreOf_39 ?_
      refine q_land eX11_coreOf_40 ?_
      refine q_V1 (ci := 11) (n := 0) eX11_coreOf_41 DX11_clash lX11_467 rfl (by decide) rfl rfl rfl rfl (h.1 hA) ?_
      rintro _ _ ⟨s3, v3, rfl, hA3, b3, rfl, h⟩
      have h := h b3
      refine q_iz_eq (tgt := 58) (a := v3) eX11_coreOf_44 (by decide) (ofz (r01 b3)) (fun c44 => ?_) (fun c44 => ?_)
      · have h := h.1 c44
        have r4 := h.1
        have h := h.2
        refine z_inc (m := 1) eX11_coreOf_58 rfl (Nat.le_of_ble_eq_true rfl) rfl ?_
        refine q_goto (tgt := 5) eX11_coreOf_61 (by decide) ?_
        exact q_subL rfl (h.1 hA3 r4)
      · have h := h.2 c44
        refine q_lload_n eX11_coreOf_47 rfl ?_
        refine q_lc (v := 1) eX11_coreOf_48 rfl ?_
        refine q_iload eX11_coreOf_49 rfl ?_
        refine z_lshl eX11_coreOf_51 ?_
        refine q_ldc2 (v := (-1)) eX11_coreOf_52 nX11_473 ?_
        refine q_lxor eX11_coreOf_55 ?_
        refine q_land eX11_coreOf_56 ?_
        refine q_lstore_n eX11_coreOf_57 (Nat.le_of_ble_eq_true rfl) ?_
        have r5 := h.1
        have h := h.2
        refine z_inc (m := 1) eX11_coreOf_58 rfl (Nat.le_of_ble_eq_true rfl) rfl ?_
        refine q_goto (tgt := 5) eX11_coreOf_61 (by decide) ?_
        exact q_subL rfl (h.1 hA3 r5)
set_option maxRecDepth 20000 in
theorem s_X11_coreOf {s : ST} {p : Int64} {Q : ST → Int64 → Prop} (h : RA s → K_X11_coreOf_5 s p 0 Q) : C_X11_coreOf s p Q := by
  refine ⟨?_, trivial⟩
  intro hA
  have h := h hA
  refine q_enter (by decide) (Nat.le_of_ble_eq_true rfl) ?_
  refine q_lload_n eX11_coreOf_0 rfl ?_
  refine q_lstore_n eX11_coreOf_1 (Nat.le_of_ble_eq_true rfl) ?_
  refine q_ic (v := Int32.ofInt 0) eX11_coreOf_2 rfl ?_
  refine q_istore eX11_coreOf_3 (Nat.le_of_ble_eq_true rfl) ?_
  exact q_subL rfl (h.1 hA (r32l rfl))
theorem eX11_core_0 : decode cX11_core 0 = .ok (.aload_n 0, 1) := by decide +kernel
theorem eX11_core_1 : decode cX11_core 1 = .ok (.invokevirtual 460, 3) := by decide +kernel
theorem eX11_core_4 : decode cX11_core 4 = .ok (.aload_n 0, 1) := by decide +kernel
theorem eX11_core_5 : decode cX11_core 5 = .ok (.aload_n 0, 1) := by decide +kernel
theorem eX11_core_6 : decode cX11_core 6 = .ok (.invokevirtual 463, 3) := by decide +kernel
theorem eX11_core_9 : decode cX11_core 9 = .ok (.invokevirtual 467, 3) := by decide +kernel
theorem eX11_core_12 : decode cX11_core 12 = .ok (.ifCond .eq 14, 3) := by decide +kernel
theorem eX11_core_15 : decode cX11_core 15 = .ok (.aload_n 0, 1) := by decide +kernel
theorem eX11_core_16 : decode cX11_core 16 = .ok (.aload_n 0, 1) := by decide +kernel
theorem eX11_core_17 : decode cX11_core 17 = .ok (.invokevirtual 463, 3) := by decide +kernel
theorem eX11_core_20 : decode cX11_core 20 = .ok (.invokevirtual 475, 3) := by decide +kernel
theorem eX11_core_23 : decode cX11_core 23 = .ok (.goto 4, 3) := by decide +kernel
theorem eX11_core_26 : decode cX11_core 26 = .ok (.lconst 0, 1) := by decide +kernel
theorem eX11_core_27 : decode cX11_core 27 = .ok (.lreturn, 1) := by decide +kernel
def C_X11_core (s : ST) (Q : ST → Int64 → Prop) : Prop := bx <| RA s → q_met mX11_core (qs layM s) [.ref 139] (PL layM Q)
theorem C_X11_core.mono {s : ST} {Q Q' : ST → Int64 → Prop} (h : C_X11_core s Q) (hq : ∀ s v, Q s v → Q' s v) : C_X11_core s Q' := ⟨fun hA => q_met.mono (h.1 hA) (fun _ _ => PL.mono hq), trivial⟩
set_option maxRecDepth 20000 in
theorem s_X11_core {s : ST} {Q : ST → Int64 → Prop} (h : RA s → (C_X11_layNow s (fun s1 => (P_X11_allPlaces s1 ∧ (C_X11_clash s1 ((lshl 1 (s1.1 142 (s1.1 139 28))) - 1) (fun s4 v4 => (v4 = 0 ∨ v4 = 1) → ((v4 = 0 → Q s4 0) ∧ (¬ v4 = 0 → (P_X11_allPlaces s4 ∧ (C_X11_coreOf s4 ((lshl 1 (s4.1 142 (s4.1 139 28))) - 1) (fun s7 v7 => Q s7 v7))))))))))) : C_X11_core s Q := by
  refine ⟨?_, trivial⟩
  intro hA
  have h := h hA
  refine q_enter (by decide) (Nat.le_of_ble_eq_true rfl) ?_
  refine q_aload_n eX11_core_0 rfl ?_
  refine q_V0 (ci := 11) (n := 0) eX11_core_1 DX11_layNow lX11_460 rfl (by decide) rfl rfl rfl rfl (h.1 hA) ?_
  rintro _ _ ⟨s1, rfl, hA1, rfl, h⟩
  refine q_aload_n eX11_core_4 rfl ?_
  refine q_aload_n eX11_core_5 rfl ?_
  have f3 := h.1
  have h := h.2
  refine q_V0 (ci := 11) (n := 0) eX11_core_6 DX11_allPlaces lX11_463 rfl (by decide) rfl rfl rfl rfl (p_X11_allPlaces f3 hA1) ?_
  rintro _ _ ⟨rfl, rfl⟩
  refine q_V1 (ci := 11) (n := 0) eX11_core_9 DX11_clash lX11_467 rfl (by decide) rfl rfl rfl rfl (h.1 hA1) ?_
  rintro _ _ ⟨s4, v4, rfl, hA4, b4, rfl, h⟩
  have h := h b4
  refine q_iz_eq (tgt := 26) (a := v4) eX11_core_12 (by decide) (ofz (r01 b4)) (fun c12 => ?_) (fun c12 => ?_)
  · have h := h.1 c12
    refine q_lc (v := 0) eX11_core_26 rfl ?_
    exact q_lret eX11_core_27 rfl ⟨_, _, rfl, hA4, rfl, h⟩
  · have h := h.2 c12
    refine q_aload_n eX11_core_15 rfl ?_
    refine q_aload_n eX11_core_16 rfl ?_
    have f6 := h.1
    have h := h.2
    refine q_V0 (ci := 11) (n := 0) eX11_core_17 DX11_allPlaces lX11_463 rfl (by decide) rfl rfl rfl rfl (p_X11_allPlaces f6 hA4) ?_
    rintro _ _ ⟨rfl, rfl⟩
    refine q_V1 (ci := 11) (n := 0) eX11_core_20 DX11_coreOf lX11_475 rfl (by decide) rfl rfl rfl rfl (h.1 hA4) ?_
    rintro _ _ ⟨s7, v7, rfl, hA7, rfl, h⟩
    refine q_goto (tgt := 27) eX11_core_23 (by decide) ?_
    exact q_lret eX11_core_27 rfl ⟨_, _, rfl, hA7, rfl, h⟩
theorem eX11_layClashes_0 : decode cX11_layClashes 0 = .ok (.aload_n 0, 1) := by decide +kernel
theorem eX11_layClashes_1 : decode cX11_layClashes 1 = .ok (.getfield 20, 3) := by decide +kernel
theorem eX11_layClashes_4 : decode cX11_layClashes 4 = .ok (.aload_n 0, 1) := by decide +kernel
theorem eX11_layClashes_5 : decode cX11_layClashes 5 = .ok (.getfield 321, 3) := by decide +kernel
theorem eX11_layClashes_8 : decode cX11_layClashes 8 = .ok (.iaload, 1) := by decide +kernel
theorem eX11_layClashes_9 : decode cX11_layClashes 9 = .ok (.bipush 12, 2) := by decide +kernel
theorem eX11_layClashes_11 : decode cX11_layClashes 11 = .ok (.if_icmp .le 5, 3) := by decide +kernel
theorem eX11_layClashes_14 : decode cX11_layClashes 14 = .ok (.iconst 0, 1) := by decide +kernel
theorem eX11_layClashes_15 : decode cX11_layClashes 15 = .ok (.ireturn, 1) := by decide +kernel
theorem eX11_layClashes_16 : decode cX11_layClashes 16 = .ok (.aload_n 0, 1) := by decide +kernel
theorem eX11_layClashes_17 : decode cX11_layClashes 17 = .ok (.invokevirtual 460, 3) := by decide +kernel
theorem eX11_layClashes_20 : decode cX11_layClashes 20 = .ok (.iconst 0, 1) := by decide +kernel
theorem eX11_layClashes_21 : decode cX11_layClashes 21 = .ok (.istore_n 1, 1) := by decide +kernel
theorem eX11_layClashes_22 : decode cX11_layClashes 22 = .ok (.iload_n 1, 1) := by decide +kernel
theorem eX11_layClashes_23 : decode cX11_layClashes 23 = .ok (.iconst 1, 1) := by decide +kernel
theorem eX11_layClashes_24 : decode cX11_layClashes 24 = .ok (.aload_n 0, 1) := by decide +kernel
theorem eX11_layClashes_25 : decode cX11_layClashes 25 = .ok (.getfield 20, 3) := by decide +kernel
theorem eX11_layClashes_28 : decode cX11_layClashes 28 = .ok (.aload_n 0, 1) := by decide +kernel
theorem eX11_layClashes_29 : decode cX11_layClashes 29 = .ok (.getfield 321, 3) := by decide +kernel
theorem eX11_layClashes_32 : decode cX11_layClashes 32 = .ok (.iaload, 1) := by decide +kernel
theorem eX11_layClashes_33 : decode cX11_layClashes 33 = .ok (.ishl, 1) := by decide +kernel
theorem eX11_layClashes_34 : decode cX11_layClashes 34 = .ok (.if_icmp .ge 21, 3) := by decide +kernel
theorem eX11_layClashes_37 : decode cX11_layClashes 37 = .ok (.aload_n 0, 1) := by decide +kernel
theorem eX11_layClashes_38 : decode cX11_layClashes 38 = .ok (.getfield 124, 3) := by decide +kernel
theorem eX11_layClashes_41 : decode cX11_layClashes 41 = .ok (.iload_n 1, 1) := by decide +kernel
theorem eX11_layClashes_42 : decode cX11_layClashes 42 = .ok (.aload_n 0, 1) := by decide +kernel
theorem eX11_layClashes_43 : decode cX11_layClashes 43 = .ok (.iload_n 1, 1) := by decide +kernel
theorem eX11_layClashes_44 : decode cX11_layClashes 44 = .ok (.i2l, 1) := by decide +kernel
theorem eX11_layClashes_45 : decode cX11_layClashes 45 = .ok (.invokevirtual 467, 3) := by decide +kernel
theorem eX11_layClashes_48 : decode cX11_layClashes 48 = .ok (.bastore, 1) := by decide +kernel
theorem eX11_layClashes_49 : decode cX11_layClashes 49 = .ok (.iinc 1 1, 3) := by decide +kernel
theorem eX11_layClashes_52 : decode cX11_layClashes 52 = .ok (.goto (-30), 3) := by decide +kernel
theorem eX11_layClashes_55 : decode cX11_layClashes 55 = .ok (.iconst 1, 1) := by decide +kernel
theorem eX11_layClashes_56 : decode cX11_layClashes 56 = .ok (.ireturn, 1) := by decide +kernel
def C_X11_layClashes (s : ST) (Q : ST → Int → Prop) : Prop := bx <| RA s → q_met mX11_layClashes (qs layM s) [.ref 139] (PB layM Q)
theorem C_X11_layClashes.mono {s : ST} {Q Q' : ST → Int → Prop} (h : C_X11_layClashes s Q) (hq : ∀ s v, Q s v → Q' s v) : C_X11_layClashes s Q' := ⟨fun hA => q_met.mono (h.1 hA) (fun _ _ => PB.mono hq), trivial⟩
def K_X11_layClashes_22 (s : ST) (a1 : Int) (Q : ST → Int → Prop) : Prop := bx <| RA s → R32 a1 → q_K mX11_layClashes (qs layM s) 0 0 22 [(0, .ref 139), (1, .int (Int32.ofInt a1))] [] (q_fin mX11_layClashes (PB layM Q))
set_option maxRecDepth 20000 in
theorem s_X11_layClashes_22 {s : ST} {a1 : Int} {Q : ST → Int → Prop} (h : RA s → R32 a1 → (((0 : Int) ≤ s.1 139 28 ∧ s.1 139 28 < 6) ∧ (((ishl 1 (s.1 142 (s.1 139 28))) ≤ a1 → Q s 1) ∧ (¬ (ishl 1 (s.1 142 (s.1 139 28))) ≤ a1 → (C_X11_clash s (Int64.ofInt a1) (fun s2 v2 => (v2 = 0 ∨ v2 = 1) → (((0 : Int) ≤ a1 ∧ a1 < 4096) ∧ (R32 (a1 + 1) ∧ K_X11_layClashes_22 (ui s2 175 a1 v2) (a1 + 1) Q)))))))) : K_X11_layClashes_22 s a1 Q := by
  refine ⟨?_, trivial⟩
  intro hA hra1
  have h := h hA hra1
  refine q_iload_n eX11_layClashes_22 rfl ?_
  refine q_ic (v := Int32.ofInt 1) eX11_layClashes_23 rfl ?_
  refine q_aload_n eX11_layClashes_24 rfl ?_
  refine q_getR (c := 11) (n := 0) (k := 11) (a := 142) eX11_layClashes_25 rfl (by decide) (by decide) fX11_20 rfl rfl ?_
  refine q_aload_n eX11_layClashes_28 rfl ?_
  refine q_getf (c := 11) (n := 0) (k := 28) (v := .int (Int32.ofInt (s.1 139 28))) eX11_layClashes_29 rfl (by decide) (by decide) fX11_321 rfl ?_
  have f1 := h.1
  have h := h.2
  refine z_iald (n := 6) eX11_layClashes_32 rfl (ofz (hA _ _)) f1 ?_
  refine q_topI (v := Int32.ofInt (s.1 142 (s.1 139 28))) rfl ?_
  refine z_ishl eX11_layClashes_33 ?_
  refine q_cz_ge (tgt := 55) (a := a1) (b := (ishl 1 (s.1 142 (s.1 139 28)))) eX11_layClashes_34 (by decide) (ofz hra1) (ofz (ishl_r _ _)) (fun c34 => ?_) (fun c34 => ?_)
  · have h := h.1 c34
    refine q_ic (v := Int32.ofInt 1) eX11_layClashes_55 rfl ?_
    exact q_zret eX11_layClashes_56 rfl (z01 (Or.inr rfl)) ⟨_, _, rfl, hA, (Or.inr rfl), rfl, h⟩
  · have h := h.2 c34
    refine q_aload_n eX11_layClashes_37 rfl ?_
    refine q_getR (c := 11) (n := 0) (k := 53) (a := 175) eX11_layClashes_38 rfl (by decide) (by decide) fX11_124 rfl rfl ?_
    refine q_iload_n eX11_layClashes_41 rfl ?_
    refine q_aload_n eX11_layClashes_42 rfl ?_
    refine q_iload_n eX11_layClashes_43 rfl ?_
    refine z_i2l eX11_layClashes_44 hra1 ?_
    refine q_V1 (ci := 11) (n := 0) eX11_layClashes_45 DX11_clash lX11_467 rfl (by decide) rfl rfl rfl rfl (h.1 hA) ?_
    rintro _ _ ⟨s2, v2, rfl, hA2, b2, rfl, h⟩
    have h := h b2
    have f3 := h.1
    have h := h.2
    refine z_zast (n := 4096) eX11_layClashes_48 rfl (ofz hra1) f3 (z01 b2) ?_
    have r4 := h.1
    have h := h.2
    refine z_inc (m := 1) eX11_layClashes_49 rfl (Nat.le_of_ble_eq_true rfl) rfl ?_
    refine q_goto (tgt := 22) eX11_layClashes_52 (by decide) ?_
    exact q_subL rfl (h.1 (ra_ui hA2 (r01 b2)) r4)
set_option maxRecDepth 20000 in
theorem s_X11_layClashes {s : ST} {Q : ST → Int → Prop} (h : RA s → (((0 : Int) ≤ s.1 139 28 ∧ s.1 139 28 < 6) ∧ ((s.1 142 (s.1 139 28) ≤ 12 → (C_X11_layNow s (fun s2 => K_X11_layClashes_22 s2 0 Q))) ∧ (¬ s.1 142 (s.1 139 28) ≤ 12 → Q s 0)))) : C_X11_layClashes s Q := by
  refine ⟨?_, trivial⟩
  intro hA
  have h := h hA
  refine q_enter (by decide) (Nat.le_of_ble_eq_true rfl) ?_
  refine q_aload_n eX11_layClashes_0 rfl ?_
  refine q_getR (c := 11) (n := 0) (k := 11) (a := 142) eX11_layClashes_1 rfl (by decide) (by decide) fX11_20 rfl rfl ?_
  refine q_aload_n eX11_layClashes_4 rfl ?_
  refine q_getf (c := 11) (n := 0) (k := 28) (v := .int (Int32.ofInt (s.1 139 28))) eX11_layClashes_5 rfl (by decide) (by decide) fX11_321 rfl ?_
  have f1 := h.1
  have h := h.2
  refine z_iald (n := 6) eX11_layClashes_8 rfl (ofz (hA _ _)) f1 ?_
  refine q_topI (v := Int32.ofInt (s.1 142 (s.1 139 28))) rfl ?_
  refine q_bi (v := Int32.ofInt 12) eX11_layClashes_9 rfl ?_
  refine q_cz_le (tgt := 16) (a := s.1 142 (s.1 139 28)) (b := 12) eX11_layClashes_11 (by decide) (ofz (hA _ _)) (ofz (r32l rfl)) (fun c11 => ?_) (fun c11 => ?_)
  · have h := h.1 c11
    refine q_aload_n eX11_layClashes_16 rfl ?_
    refine q_V0 (ci := 11) (n := 0) eX11_layClashes_17 DX11_layNow lX11_460 rfl (by decide) rfl rfl rfl rfl (h.1 hA) ?_
    rintro _ _ ⟨s2, rfl, hA2, rfl, h⟩
    refine q_ic (v := Int32.ofInt 0) eX11_layClashes_20 rfl ?_
    refine q_istore_n eX11_layClashes_21 (Nat.le_of_ble_eq_true rfl) ?_
    exact q_subL rfl (h.1 hA2 (r32l rfl))
  · have h := h.2 c11
    refine q_ic (v := Int32.ofInt 0) eX11_layClashes_14 rfl ?_
    exact q_zret eX11_layClashes_15 rfl (z01 (Or.inl rfl)) ⟨_, _, rfl, hA, (Or.inl rfl), rfl, h⟩
theorem eX11_isCore_0 : decode cX11_isCore 0 = .ok (.aload_n 0, 1) := by decide +kernel
theorem eX11_isCore_1 : decode cX11_isCore 1 = .ok (.getfield 124, 3) := by decide +kernel
theorem eX11_isCore_4 : decode cX11_isCore 4 = .ok (.iload_n 1, 1) := by decide +kernel
theorem eX11_isCore_5 : decode cX11_isCore 5 = .ok (.baload, 1) := by decide +kernel
theorem eX11_isCore_6 : decode cX11_isCore 6 = .ok (.ifCond .ne 5, 3) := by decide +kernel
theorem eX11_isCore_9 : decode cX11_isCore 9 = .ok (.iconst 0, 1) := by decide +kernel
theorem eX11_isCore_10 : decode cX11_isCore 10 = .ok (.ireturn, 1) := by decide +kernel
theorem eX11_isCore_11 : decode cX11_isCore 11 = .ok (.iconst 0, 1) := by decide +kernel
theorem eX11_isCore_12 : decode cX11_isCore 12 = .ok (.istore_n 2, 1) := by decide +kernel
theorem eX11_isCore_13 : decode cX11_isCore 13 = .ok (.iload_n 2, 1) := by decide +kernel
theorem eX11_isCore_14 : decode cX11_isCore 14 = .ok (.aload_n 0, 1) := by decide +kernel
theorem eX11_isCore_15 : decode cX11_isCore 15 = .ok (.getfield 20, 3) := by decide +kernel
theorem eX11_isCore_18 : decode cX11_isCore 18 = .ok (.aload_n 0, 1) := by decide +kernel
theorem eX11_isCore_19 : decode cX11_isCore 19 = .ok (.getfield 321, 3) := by decide +kernel
theorem eX11_isCore_22 : decode cX11_isCore 22 = .ok (.iaload, 1) := by decide +kernel
theorem eX11_isCore_23 : decode cX11_isCore 23 = .ok (.if_icmp .ge 35, 3) := by decide +kernel
theorem eX11_isCore_26 : decode cX11_isCore 26 = .ok (.iload_n 1, 1) := by decide +kernel
theorem eX11_isCore_27 : decode cX11_isCore 27 = .ok (.iload_n 2, 1) := by decide +kernel
theorem eX11_isCore_28 : decode cX11_isCore 28 = .ok (.ishr, 1) := by decide +kernel
theorem eX11_isCore_29 : decode cX11_isCore 29 = .ok (.iconst 1, 1) := by decide +kernel
theorem eX11_isCore_30 : decode cX11_isCore 30 = .ok (.iand, 1) := by decide +kernel
theorem eX11_isCore_31 : decode cX11_isCore 31 = .ok (.iconst 1, 1) := by decide +kernel
theorem eX11_isCore_32 : decode cX11_isCore 32 = .ok (.if_icmp .ne 20, 3) := by decide +kernel
theorem eX11_isCore_35 : decode cX11_isCore 35 = .ok (.aload_n 0, 1) := by decide +kernel
theorem eX11_isCore_36 : decode cX11_isCore 36 = .ok (.getfield 124, 3) := by decide +kernel
theorem eX11_isCore_39 : decode cX11_isCore 39 = .ok (.iload_n 1, 1) := by decide +kernel
theorem eX11_isCore_40 : decode cX11_isCore 40 = .ok (.iconst 1, 1) := by decide +kernel
theorem eX11_isCore_41 : decode cX11_isCore 41 = .ok (.iload_n 2, 1) := by decide +kernel
theorem eX11_isCore_42 : decode cX11_isCore 42 = .ok (.ishl, 1) := by decide +kernel
theorem eX11_isCore_43 : decode cX11_isCore 43 = .ok (.iconst (-1), 1) := by decide +kernel
theorem eX11_isCore_44 : decode cX11_isCore 44 = .ok (.ixor, 1) := by decide +kernel
theorem eX11_isCore_45 : decode cX11_isCore 45 = .ok (.iand, 1) := by decide +kernel
theorem eX11_isCore_46 : decode cX11_isCore 46 = .ok (.baload, 1) := by decide +kernel
theorem eX11_isCore_47 : decode cX11_isCore 47 = .ok (.ifCond .eq 5, 3) := by decide +kernel
theorem eX11_isCore_50 : decode cX11_isCore 50 = .ok (.iconst 0, 1) := by decide +kernel
theorem eX11_isCore_51 : decode cX11_isCore 51 = .ok (.ireturn, 1) := by decide +kernel
theorem eX11_isCore_52 : decode cX11_isCore 52 = .ok (.iinc 2 1, 3) := by decide +kernel
theorem eX11_isCore_55 : decode cX11_isCore 55 = .ok (.goto (-42), 3) := by decide +kernel
theorem eX11_isCore_58 : decode cX11_isCore 58 = .ok (.iconst 1, 1) := by decide +kernel
theorem eX11_isCore_59 : decode cX11_isCore 59 = .ok (.ireturn, 1) := by decide +kernel
def C_X11_isCore (s : ST) (p : Int) (Q : ST → Int → Prop) : Prop := bx <| RA s → R32 p → q_met mX11_isCore (qs layM s) [.ref 139, .int (Int32.ofInt p)] (PB layM Q)
theorem C_X11_isCore.mono {s : ST} {p : Int} {Q Q' : ST → Int → Prop} (h : C_X11_isCore s p Q) (hq : ∀ s v, Q s v → Q' s v) : C_X11_isCore s p Q' := ⟨fun hA hrp => q_met.mono (h.1 hA hrp) (fun _ _ => PB.mono hq), trivial⟩
def K_X11_isCore_13 (s : ST) (a1 : Int) (a2 : Int) (Q : ST → Int → Prop) : Prop := bx <| RA s → R32 a1 → R32 a2 → q_K mX11_isCore (qs layM s) 0 0 13 [(0, .ref 139), (1, .int (Int32.ofInt a1)), (2, .int (Int32.ofInt a2))] [] (q_fin mX11_isCore (PB layM Q))
set_option maxRecDepth 20000 in
theorem s_X11_isCore_13 {s : ST} {a1 : Int} {a2 : Int} {Q : ST → Int → Prop} (h : RA s → R32 a1 → R32 a2 → (((0 : Int) ≤ s.1 139 28 ∧ s.1 139 28 < 6) ∧ ((s.1 142 (s.1 139 28) ≤ a2 → Q s 1) ∧ (¬ s.1 142 (s.1 139 28) ≤ a2 → ((¬ (iand (ishr a1 a2) 1) = 1 → (R32 (a2 + 1) ∧ K_X11_isCore_13 s a1 (a2 + 1) Q)) ∧ ((iand (ishr a1 a2) 1) = 1 → (((0 : Int) ≤ (iand a1 (ixor (ishl 1 a2) (-1))) ∧ (iand a1 (ixor (ishl 1 a2) (-1))) < 4096) ∧ ((s.1 175 (iand a1 (ixor (ishl 1 a2) (-1))) = 0 → (R32 (a2 + 1) ∧ K_X11_isCore_13 s a1 (a2 + 1) Q)) ∧ (¬ s.1 175 (iand a1 (ixor (ishl 1 a2) (-1))) = 0 → Q s 0))))))))) : K_X11_isCore_13 s a1 a2 Q := by
  refine ⟨?_, trivial⟩
  intro hA hra1 hra2
  have h := h hA hra1 hra2
  refine q_iload_n eX11_isCore_13 rfl ?_
  refine q_aload_n eX11_isCore_14 rfl ?_
  refine q_getR (c := 11) (n := 0) (k := 11) (a := 142) eX11_isCore_15 rfl (by decide) (by decide) fX11_20 rfl rfl ?_
  refine q_aload_n eX11_isCore_18 rfl ?_
  refine q_getf (c := 11) (n := 0) (k := 28) (v := .int (Int32.ofInt (s.1 139 28))) eX11_isCore_19 rfl (by decide) (by decide) fX11_321 rfl ?_
  have f1 := h.1
  have h := h.2
  refine z_iald (n := 6) eX11_isCore_22 rfl (ofz (hA _ _)) f1 ?_
  refine q_topI (v := Int32.ofInt (s.1 142 (s.1 139 28))) rfl ?_
  refine q_cz_ge (tgt := 58) (a := a2) (b := s.1 142 (s.1 139 28)) eX11_isCore_23 (by decide) (ofz hra2) (ofz (hA _ _)) (fun c23 => ?_) (fun c23 => ?_)
  · have h := h.1 c23
    refine q_ic (v := Int32.ofInt 1) eX11_isCore_58 rfl ?_
    exact q_zret eX11_isCore_59 rfl (z01 (Or.inr rfl)) ⟨_, _, rfl, hA, (Or.inr rfl), rfl, h⟩
  · have h := h.2 c23
    refine q_iload_n eX11_isCore_26 rfl ?_
    refine q_iload_n eX11_isCore_27 rfl ?_
    refine z_ishr eX11_isCore_28 ?_
    refine q_ic (v := Int32.ofInt 1) eX11_isCore_29 rfl ?_
    refine z_iand eX11_isCore_30 ?_
    refine q_ic (v := Int32.ofInt 1) eX11_isCore_31 rfl ?_
    refine q_cz_ne (tgt := 52) (a := (iand (ishr a1 a2) 1)) (b := 1) eX11_isCore_32 (by decide) (ofz (iand_r _ _)) (ofz (r32l rfl)) (fun c32 => ?_) (fun c32 => ?_)
    · have h := h.1 c32
      have r2 := h.1
      have h := h.2
      refine z_inc (m := 1) eX11_isCore_52 rfl (Nat.le_of_ble_eq_true rfl) rfl ?_
      refine q_goto (tgt := 13) eX11_isCore_55 (by decide) ?_
      exact q_subL rfl (h.1 hA hra1 r2)
    · have h := h.2 c32
      refine q_aload_n eX11_isCore_35 rfl ?_
      refine q_getR (c := 11) (n := 0) (k := 53) (a := 175) eX11_isCore_36 rfl (by decide) (by decide) fX11_124 rfl rfl ?_
      refine q_iload_n eX11_isCore_39 rfl ?_
      refine q_ic (v := Int32.ofInt 1) eX11_isCore_40 rfl ?_
      refine q_iload_n eX11_isCore_41 rfl ?_
      refine z_ishl eX11_isCore_42 ?_
      refine q_ic (v := Int32.ofInt (-1)) eX11_isCore_43 rfl ?_
      refine z_ixor eX11_isCore_44 ?_
      refine z_iand eX11_isCore_45 ?_
      have f3 := h.1
      have h := h.2
      refine z_zald (n := 4096) eX11_isCore_46 rfl (ofz (iand_r _ _)) f3 ?_
      refine q_topI (v := Int32.ofInt (s.1 175 (iand a1 (ixor (ishl 1 a2) (-1))))) rfl ?_
      refine q_iz_eq (tgt := 52) (a := s.1 175 (iand a1 (ixor (ishl 1 a2) (-1)))) eX11_isCore_47 (by decide) (ofz (hA _ _)) (fun c47 => ?_) (fun c47 => ?_)
      · have h := h.1 c47
        have r4 := h.1
        have h := h.2
        refine z_inc (m := 1) eX11_isCore_52 rfl (Nat.le_of_ble_eq_true rfl) rfl ?_
        refine q_goto (tgt := 13) eX11_isCore_55 (by decide) ?_
        exact q_subL rfl (h.1 hA hra1 r4)
      · have h := h.2 c47
        refine q_ic (v := Int32.ofInt 0) eX11_isCore_50 rfl ?_
        exact q_zret eX11_isCore_51 rfl (z01 (Or.inl rfl)) ⟨_, _, rfl, hA, (Or.inl rfl), rfl, h⟩
set_option maxRecDepth 20000 in
theorem s_X11_isCore {s : ST} {p : Int} {Q : ST → Int → Prop} (h : RA s → R32 p → (((0 : Int) ≤ p ∧ p < 4096) ∧ ((¬ s.1 175 p = 0 → K_X11_isCore_13 s p 0 Q) ∧ (s.1 175 p = 0 → Q s 0)))) : C_X11_isCore s p Q := by
  refine ⟨?_, trivial⟩
  intro hA hrp
  have h := h hA hrp
  refine q_enter (by decide) (Nat.le_of_ble_eq_true rfl) ?_
  refine q_aload_n eX11_isCore_0 rfl ?_
  refine q_getR (c := 11) (n := 0) (k := 53) (a := 175) eX11_isCore_1 rfl (by decide) (by decide) fX11_124 rfl rfl ?_
  refine q_iload_n eX11_isCore_4 rfl ?_
  have f1 := h.1
  have h := h.2
  refine z_zald (n := 4096) eX11_isCore_5 rfl (ofz hrp) f1 ?_
  refine q_topI (v := Int32.ofInt (s.1 175 p)) rfl ?_
  refine q_iz_ne (tgt := 11) (a := s.1 175 p) eX11_isCore_6 (by decide) (ofz (hA _ _)) (fun c6 => ?_) (fun c6 => ?_)
  · have h := h.1 c6
    refine q_ic (v := Int32.ofInt 0) eX11_isCore_11 rfl ?_
    refine q_istore_n eX11_isCore_12 (Nat.le_of_ble_eq_true rfl) ?_
    exact q_subL rfl (h.1 hA hrp (r32l rfl))
  · have h := h.2 c6
    refine q_ic (v := Int32.ofInt 0) eX11_isCore_9 rfl ?_
    exact q_zret eX11_isCore_10 rfl (z01 (Or.inl rfl)) ⟨_, _, rfl, hA, (Or.inl rfl), rfl, h⟩
theorem eX11_isMend_0 : decode cX11_isMend 0 = .ok (.iconst 1, 1) := by decide +kernel
theorem eX11_isMend_1 : decode cX11_isMend 1 = .ok (.aload_n 0, 1) := by decide +kernel
theorem eX11_isMend_2 : decode cX11_isMend 2 = .ok (.getfield 20, 3) := by decide +kernel
theorem eX11_isMend_5 : decode cX11_isMend 5 = .ok (.aload_n 0, 1) := by decide +kernel
theorem eX11_isMend_6 : decode cX11_isMend 6 = .ok (.getfield 321, 3) := by decide +kernel
theorem eX11_isMend_9 : decode cX11_isMend 9 = .ok (.iaload, 1) := by decide +kernel
theorem eX11_isMend_10 : decode cX11_isMend 10 = .ok (.ishl, 1) := by decide +kernel
theorem eX11_isMend_11 : decode cX11_isMend 11 = .ok (.iconst 1, 1) := by decide +kernel
theorem eX11_isMend_12 : decode cX11_isMend 12 = .ok (.isub, 1) := by decide +kernel
theorem eX11_isMend_13 : decode cX11_isMend 13 = .ok (.iload_n 1, 1) := by decide +kernel
theorem eX11_isMend_14 : decode cX11_isMend 14 = .ok (.iconst (-1), 1) := by decide +kernel
theorem eX11_isMend_15 : decode cX11_isMend 15 = .ok (.ixor, 1) := by decide +kernel
theorem eX11_isMend_16 : decode cX11_isMend 16 = .ok (.iand, 1) := by decide +kernel
theorem eX11_isMend_17 : decode cX11_isMend 17 = .ok (.istore_n 2, 1) := by decide +kernel
theorem eX11_isMend_18 : decode cX11_isMend 18 = .ok (.aload_n 0, 1) := by decide +kernel
theorem eX11_isMend_19 : decode cX11_isMend 19 = .ok (.getfield 124, 3) := by decide +kernel
theorem eX11_isMend_22 : decode cX11_isMend 22 = .ok (.iload_n 2, 1) := by decide +kernel
theorem eX11_isMend_23 : decode cX11_isMend 23 = .ok (.baload, 1) := by decide +kernel
theorem eX11_isMend_24 : decode cX11_isMend 24 = .ok (.ifCond .eq 5, 3) := by decide +kernel
theorem eX11_isMend_27 : decode cX11_isMend 27 = .ok (.iconst 0, 1) := by decide +kernel
theorem eX11_isMend_28 : decode cX11_isMend 28 = .ok (.ireturn, 1) := by decide +kernel
theorem eX11_isMend_29 : decode cX11_isMend 29 = .ok (.iconst 0, 1) := by decide +kernel
theorem eX11_isMend_30 : decode cX11_isMend 30 = .ok (.istore_n 3, 1) := by decide +kernel
theorem eX11_isMend_31 : decode cX11_isMend 31 = .ok (.iload_n 3, 1) := by decide +kernel
theorem eX11_isMend_32 : decode cX11_isMend 32 = .ok (.aload_n 0, 1) := by decide +kernel
theorem eX11_isMend_33 : decode cX11_isMend 33 = .ok (.getfield 20, 3) := by decide +kernel
theorem eX11_isMend_36 : decode cX11_isMend 36 = .ok (.aload_n 0, 1) := by decide +kernel
theorem eX11_isMend_37 : decode cX11_isMend 37 = .ok (.getfield 321, 3) := by decide +kernel
theorem eX11_isMend_40 : decode cX11_isMend 40 = .ok (.iaload, 1) := by decide +kernel
theorem eX11_isMend_41 : decode cX11_isMend 41 = .ok (.if_icmp .ge 33, 3) := by decide +kernel
theorem eX11_isMend_44 : decode cX11_isMend 44 = .ok (.iload_n 1, 1) := by decide +kernel
theorem eX11_isMend_45 : decode cX11_isMend 45 = .ok (.iload_n 3, 1) := by decide +kernel
theorem eX11_isMend_46 : decode cX11_isMend 46 = .ok (.ishr, 1) := by decide +kernel
theorem eX11_isMend_47 : decode cX11_isMend 47 = .ok (.iconst 1, 1) := by decide +kernel
theorem eX11_isMend_48 : decode cX11_isMend 48 = .ok (.iand, 1) := by decide +kernel
theorem eX11_isMend_49 : decode cX11_isMend 49 = .ok (.iconst 1, 1) := by decide +kernel
theorem eX11_isMend_50 : decode cX11_isMend 50 = .ok (.if_icmp .ne 18, 3) := by decide +kernel
theorem eX11_isMend_53 : decode cX11_isMend 53 = .ok (.aload_n 0, 1) := by decide +kernel
theorem eX11_isMend_54 : decode cX11_isMend 54 = .ok (.getfield 124, 3) := by decide +kernel
theorem eX11_isMend_57 : decode cX11_isMend 57 = .ok (.iload_n 2, 1) := by decide +kernel
theorem eX11_isMend_58 : decode cX11_isMend 58 = .ok (.iconst 1, 1) := by decide +kernel
theorem eX11_isMend_59 : decode cX11_isMend 59 = .ok (.iload_n 3, 1) := by decide +kernel
theorem eX11_isMend_60 : decode cX11_isMend 60 = .ok (.ishl, 1) := by decide +kernel
theorem eX11_isMend_61 : decode cX11_isMend 61 = .ok (.ior, 1) := by decide +kernel
theorem eX11_isMend_62 : decode cX11_isMend 62 = .ok (.baload, 1) := by decide +kernel
theorem eX11_isMend_63 : decode cX11_isMend 63 = .ok (.ifCond .ne 5, 3) := by decide +kernel
theorem eX11_isMend_66 : decode cX11_isMend 66 = .ok (.iconst 0, 1) := by decide +kernel
theorem eX11_isMend_67 : decode cX11_isMend 67 = .ok (.ireturn, 1) := by decide +kernel
theorem eX11_isMend_68 : decode cX11_isMend 68 = .ok (.iinc 3 1, 3) := by decide +kernel
theorem eX11_isMend_71 : decode cX11_isMend 71 = .ok (.goto (-40), 3) := by decide +kernel
theorem eX11_isMend_74 : decode cX11_isMend 74 = .ok (.iconst 1, 1) := by decide +kernel
theorem eX11_isMend_75 : decode cX11_isMend 75 = .ok (.ireturn, 1) := by decide +kernel
def C_X11_isMend (s : ST) (p : Int) (Q : ST → Int → Prop) : Prop := bx <| RA s → R32 p → q_met mX11_isMend (qs layM s) [.ref 139, .int (Int32.ofInt p)] (PB layM Q)
theorem C_X11_isMend.mono {s : ST} {p : Int} {Q Q' : ST → Int → Prop} (h : C_X11_isMend s p Q) (hq : ∀ s v, Q s v → Q' s v) : C_X11_isMend s p Q' := ⟨fun hA hrp => q_met.mono (h.1 hA hrp) (fun _ _ => PB.mono hq), trivial⟩
def K_X11_isMend_31 (s : ST) (a1 : Int) (a2 : Int) (a3 : Int) (Q : ST → Int → Prop) : Prop := bx <| RA s → R32 a1 → R32 a2 → R32 a3 → q_K mX11_isMend (qs layM s) 0 0 31 [(0, .ref 139), (1, .int (Int32.ofInt a1)), (2, .int (Int32.ofInt a2)), (3, .int (Int32.ofInt a3))] [] (q_fin mX11_isMend (PB layM Q))
set_option maxRecDepth 20000 in
theorem s_X11_isMend_31 {s : ST} {a1 : Int} {a2 : Int} {a3 : Int} {Q : ST → Int → Prop} (h : RA s → R32 a1 → R32 a2 → R32 a3 → (((0 : Int) ≤ s.1 139 28 ∧ s.1 139 28 < 6) ∧ ((s.1 142 (s.1 139 28) ≤ a3 → Q s 1) ∧ (¬ s.1 142 (s.1 139 28) ≤ a3 → ((¬ (iand (ishr a1 a3) 1) = 1 → (R32 (a3 + 1) ∧ K_X11_isMend_31 s a1 a2 (a3 + 1) Q)) ∧ ((iand (ishr a1 a3) 1) = 1 → (((0 : Int) ≤ (ior a2 (ishl 1 a3)) ∧ (ior a2 (ishl 1 a3)) < 4096) ∧ ((¬ s.1 175 (ior a2 (ishl 1 a3)) = 0 → (R32 (a3 + 1) ∧ K_X11_isMend_31 s a1 a2 (a3 + 1) Q)) ∧ (s.1 175 (ior a2 (ishl 1 a3)) = 0 → Q s 0))))))))) : K_X11_isMend_31 s a1 a2 a3 Q := by
  refine ⟨?_, trivial⟩
  intro hA hra1 hra2 hra3
  have h := h hA hra1 hra2 hra3
  refine q_iload_n eX11_isMend_31 rfl ?_
  refine q_aload_n eX11_isMend_32 rfl ?_
  refine q_getR (c := 11) (n := 0) (k := 11) (a := 142) eX11_isMend_33 rfl (by decide) (by decide) fX11_20 rfl rfl ?_
  refine q_aload_n eX11_isMend_36 rfl ?_
  refine q_getf (c := 11) (n := 0) (k := 28) (v := .int (Int32.ofInt (s.1 139 28))) eX11_isMend_37 rfl (by decide) (by decide) fX11_321 rfl ?_
  have f1 := h.1
  have h := h.2
  refine z_iald (n := 6) eX11_isMend_40 rfl (ofz (hA _ _)) f1 ?_
  refine q_topI (v := Int32.ofInt (s.1 142 (s.1 139 28))) rfl ?_
  refine q_cz_ge (tgt := 74) (a := a3) (b := s.1 142 (s.1 139 28)) eX11_isMend_41 (by decide) (ofz hra3) (ofz (hA _ _)) (fun c41 => ?_) (fun c41 => ?_)
  · have h := h.1 c41
    refine q_ic (v := Int32.ofInt 1) eX11_isMend_74 rfl ?_
    exact q_zret eX11_isMend_75 rfl (z01 (Or.inr rfl)) ⟨_, _, rfl, hA, (Or.inr rfl), rfl, h⟩
  · have h := h.2 c41
    refine q_iload_n eX11_isMend_44 rfl ?_
    refine q_iload_n eX11_isMend_45 rfl ?_
    refine z_ishr eX11_isMend_46 ?_
    refine q_ic (v := Int32.ofInt 1) eX11_isMend_47 rfl ?_
    refine z_iand eX11_isMend_48 ?_
    refine q_ic (v := Int32.ofInt 1) eX11_isMend_49 rfl ?_
    refine q_cz_ne (tgt := 68) (a := (iand (ishr a1 a3) 1)) (b := 1) eX11_isMend_50 (by decide) (ofz (iand_r _ _)) (ofz (r32l rfl)) (fun c50 => ?_) (fun c50 => ?_)
    · have h := h.1 c50
      have r2 := h.1
      have h := h.2
      refine z_inc (m := 1) eX11_isMend_68 rfl (Nat.le_of_ble_eq_true rfl) rfl ?_
      refine q_goto (tgt := 31) eX11_isMend_71 (by decide) ?_
      exact q_subL rfl (h.1 hA hra1 hra2 r2)
    · have h := h.2 c50
      refine q_aload_n eX11_isMend_53 rfl ?_
      refine q_getR (c := 11) (n := 0) (k := 53) (a := 175) eX11_isMend_54 rfl (by decide) (by decide) fX11_124 rfl rfl ?_
      refine q_iload_n eX11_isMend_57 rfl ?_
      refine q_ic (v := Int32.ofInt 1) eX11_isMend_58 rfl ?_
      refine q_iload_n eX11_isMend_59 rfl ?_
      refine z_ishl eX11_isMend_60 ?_
      refine z_ior eX11_isMend_61 ?_
      have f3 := h.1
      have h := h.2
      refine z_zald (n := 4096) eX11_isMend_62 rfl (ofz (ior_r _ _)) f3 ?_
      refine q_topI (v := Int32.ofInt (s.1 175 (ior a2 (ishl 1 a3)))) rfl ?_
      refine q_iz_ne (tgt := 68) (a := s.1 175 (ior a2 (ishl 1 a3))) eX11_isMend_63 (by decide) (ofz (hA _ _)) (fun c63 => ?_) (fun c63 => ?_)
      · have h := h.1 c63
        have r4 := h.1
        have h := h.2
        refine z_inc (m := 1) eX11_isMend_68 rfl (Nat.le_of_ble_eq_true rfl) rfl ?_
        refine q_goto (tgt := 31) eX11_isMend_71 (by decide) ?_
        exact q_subL rfl (h.1 hA hra1 hra2 r4)
      · have h := h.2 c63
        refine q_ic (v := Int32.ofInt 0) eX11_isMend_66 rfl ?_
        exact q_zret eX11_isMend_67 rfl (z01 (Or.inl rfl)) ⟨_, _, rfl, hA, (Or.inl rfl), rfl, h⟩
set_option maxRecDepth 20000 in
theorem s_X11_isMend {s : ST} {p : Int} {Q : ST → Int → Prop} (h : RA s → R32 p → (((0 : Int) ≤ s.1 139 28 ∧ s.1 139 28 < 6) ∧ (R32 ((ishl 1 (s.1 142 (s.1 139 28))) - 1) ∧ (((0 : Int) ≤ (iand ((ishl 1 (s.1 142 (s.1 139 28))) - 1) (ixor p (-1))) ∧ (iand ((ishl 1 (s.1 142 (s.1 139 28))) - 1) (ixor p (-1))) < 4096) ∧ ((s.1 175 (iand ((ishl 1 (s.1 142 (s.1 139 28))) - 1) (ixor p (-1))) = 0 → K_X11_isMend_31 s p (iand ((ishl 1 (s.1 142 (s.1 139 28))) - 1) (ixor p (-1))) 0 Q) ∧ (¬ s.1 175 (iand ((ishl 1 (s.1 142 (s.1 139 28))) - 1) (ixor p (-1))) = 0 → Q s 0)))))) : C_X11_isMend s p Q := by
  refine ⟨?_, trivial⟩
  intro hA hrp
  have h := h hA hrp
  refine q_enter (by decide) (Nat.le_of_ble_eq_true rfl) ?_
  refine q_ic (v := Int32.ofInt 1) eX11_isMend_0 rfl ?_
  refine q_aload_n eX11_isMend_1 rfl ?_
  refine q_getR (c := 11) (n := 0) (k := 11) (a := 142) eX11_isMend_2 rfl (by decide) (by decide) fX11_20 rfl rfl ?_
  refine q_aload_n eX11_isMend_5 rfl ?_
  refine q_getf (c := 11) (n := 0) (k := 28) (v := .int (Int32.ofInt (s.1 139 28))) eX11_isMend_6 rfl (by decide) (by decide) fX11_321 rfl ?_
  have f1 := h.1
  have h := h.2
  refine z_iald (n := 6) eX11_isMend_9 rfl (ofz (hA _ _)) f1 ?_
  refine q_topI (v := Int32.ofInt (s.1 142 (s.1 139 28))) rfl ?_
  refine z_ishl eX11_isMend_10 ?_
  refine q_ic (v := Int32.ofInt 1) eX11_isMend_11 rfl ?_
  refine z_isub eX11_isMend_12 ?_
  have r2 := h.1
  have h := h.2
  refine q_iload_n eX11_isMend_13 rfl ?_
  refine q_ic (v := Int32.ofInt (-1)) eX11_isMend_14 rfl ?_
  refine z_ixor eX11_isMend_15 ?_
  refine z_iand eX11_isMend_16 ?_
  refine q_istore_n eX11_isMend_17 (Nat.le_of_ble_eq_true rfl) ?_
  refine q_aload_n eX11_isMend_18 rfl ?_
  refine q_getR (c := 11) (n := 0) (k := 53) (a := 175) eX11_isMend_19 rfl (by decide) (by decide) fX11_124 rfl rfl ?_
  refine q_iload_n eX11_isMend_22 rfl ?_
  have f3 := h.1
  have h := h.2
  refine z_zald (n := 4096) eX11_isMend_23 rfl (ofz (iand_r _ _)) f3 ?_
  refine q_topI (v := Int32.ofInt (s.1 175 (iand ((ishl 1 (s.1 142 (s.1 139 28))) - 1) (ixor p (-1))))) rfl ?_
  refine q_iz_eq (tgt := 29) (a := s.1 175 (iand ((ishl 1 (s.1 142 (s.1 139 28))) - 1) (ixor p (-1)))) eX11_isMend_24 (by decide) (ofz (hA _ _)) (fun c24 => ?_) (fun c24 => ?_)
  · have h := h.1 c24
    refine q_ic (v := Int32.ofInt 0) eX11_isMend_29 rfl ?_
    refine q_istore_n eX11_isMend_30 (Nat.le_of_ble_eq_true rfl) ?_
    exact q_subL rfl (h.1 hA hrp (iand_r _ _) (r32l rfl))
  · have h := h.2 c24
    refine q_ic (v := Int32.ofInt 0) eX11_isMend_27 rfl ?_
    exact q_zret eX11_isMend_28 rfl (z01 (Or.inl rfl)) ⟨_, _, rfl, hA, (Or.inl rfl), rfl, h⟩
theorem eX11_counted_0 : decode cX11_counted 0 = .ok (.iconst 0, 1) := by decide +kernel
theorem eX11_counted_1 : decode cX11_counted 1 = .ok (.istore_n 3, 1) := by decide +kernel
theorem eX11_counted_2 : decode cX11_counted 2 = .ok (.iconst 0, 1) := by decide +kernel
theorem eX11_counted_3 : decode cX11_counted 3 = .ok (.istore 4, 2) := by decide +kernel
theorem eX11_counted_5 : decode cX11_counted 5 = .ok (.iload 4, 2) := by decide +kernel
theorem eX11_counted_7 : decode cX11_counted 7 = .ok (.iconst 1, 1) := by decide +kernel
theorem eX11_counted_8 : decode cX11_counted 8 = .ok (.aload_n 0, 1) := by decide +kernel
theorem eX11_counted_9 : decode cX11_counted 9 = .ok (.getfield 20, 3) := by decide +kernel
theorem eX11_counted_12 : decode cX11_counted 12 = .ok (.aload_n 0, 1) := by decide +kernel
theorem eX11_counted_13 : decode cX11_counted 13 = .ok (.getfield 321, 3) := by decide +kernel
theorem eX11_counted_16 : decode cX11_counted 16 = .ok (.iaload, 1) := by decide +kernel
theorem eX11_counted_17 : decode cX11_counted 17 = .ok (.ishl, 1) := by decide +kernel
theorem eX11_counted_18 : decode cX11_counted 18 = .ok (.if_icmp .ge 48, 3) := by decide +kernel
theorem eX11_counted_21 : decode cX11_counted 21 = .ok (.iload_n 1, 1) := by decide +kernel
theorem eX11_counted_22 : decode cX11_counted 22 = .ok (.ifCond .eq 15, 3) := by decide +kernel
theorem eX11_counted_25 : decode cX11_counted 25 = .ok (.aload_n 0, 1) := by decide +kernel
theorem eX11_counted_26 : decode cX11_counted 26 = .ok (.iload 4, 2) := by decide +kernel
theorem eX11_counted_28 : decode cX11_counted 28 = .ok (.invokevirtual 479, 3) := by decide +kernel
theorem eX11_counted_31 : decode cX11_counted 31 = .ok (.ifCond .eq 29, 3) := by decide +kernel
theorem eX11_counted_34 : decode cX11_counted 34 = .ok (.goto 15, 3) := by decide +kernel
theorem eX11_counted_37 : decode cX11_counted 37 = .ok (.aload_n 0, 1) := by decide +kernel
theorem eX11_counted_38 : decode cX11_counted 38 = .ok (.iload 4, 2) := by decide +kernel
theorem eX11_counted_40 : decode cX11_counted 40 = .ok (.invokevirtual 482, 3) := by decide +kernel
theorem eX11_counted_43 : decode cX11_counted 43 = .ok (.ifCond .ne 6, 3) := by decide +kernel
theorem eX11_counted_46 : decode cX11_counted 46 = .ok (.goto 14, 3) := by decide +kernel
theorem eX11_counted_49 : decode cX11_counted 49 = .ok (.iload_n 3, 1) := by decide +kernel
theorem eX11_counted_50 : decode cX11_counted 50 = .ok (.iload_n 2, 1) := by decide +kernel
theorem eX11_counted_51 : decode cX11_counted 51 = .ok (.if_icmp .ne 6, 3) := by decide +kernel
theorem eX11_counted_54 : decode cX11_counted 54 = .ok (.iload 4, 2) := by decide +kernel
theorem eX11_counted_56 : decode cX11_counted 56 = .ok (.ireturn, 1) := by decide +kernel
theorem eX11_counted_57 : decode cX11_counted 57 = .ok (.iinc 3 1, 3) := by decide +kernel
theorem eX11_counted_60 : decode cX11_counted 60 = .ok (.iinc 4 1, 3) := by decide +kernel
theorem eX11_counted_63 : decode cX11_counted 63 = .ok (.goto (-58), 3) := by decide +kernel
theorem eX11_counted_66 : decode cX11_counted 66 = .ok (.iload_n 2, 1) := by decide +kernel
theorem eX11_counted_67 : decode cX11_counted 67 = .ok (.ifCond .ge 7, 3) := by decide +kernel
theorem eX11_counted_70 : decode cX11_counted 70 = .ok (.iload_n 3, 1) := by decide +kernel
theorem eX11_counted_71 : decode cX11_counted 71 = .ok (.goto 4, 3) := by decide +kernel
theorem eX11_counted_74 : decode cX11_counted 74 = .ok (.iconst (-1), 1) := by decide +kernel
theorem eX11_counted_75 : decode cX11_counted 75 = .ok (.ireturn, 1) := by decide +kernel
def C_X11_counted (s : ST) (p : Int) (q : Int) (Q : ST → Int → Prop) : Prop := bx <| RA s → R32 p → R32 q → q_met mX11_counted (qs layM s) [.ref 139, .int (Int32.ofInt p), .int (Int32.ofInt q)] (PI layM Q)
theorem C_X11_counted.mono {s : ST} {p : Int} {q : Int} {Q Q' : ST → Int → Prop} (h : C_X11_counted s p q Q) (hq : ∀ s v, Q s v → Q' s v) : C_X11_counted s p q Q' := ⟨fun hA hrp hrq => q_met.mono (h.1 hA hrp hrq) (fun _ _ => PI.mono hq), trivial⟩
def K_X11_counted_49 (s : ST) (a1 : Int) (a2 : Int) (a3 : Int) (a4 : Int) (Q : ST → Int → Prop) : Prop := bx <| RA s → R32 a1 → R32 a2 → R32 a3 → R32 a4 → q_K mX11_counted (qs layM s) 0 0 49 [(0, .ref 139), (1, .int (Int32.ofInt a1)), (2, .int (Int32.ofInt a2)), (3, .int (Int32.ofInt a3)), (4, .int (Int32.ofInt a4))] [] (q_fin mX11_counted (PI layM Q))
def K_X11_counted_5 (s : ST) (a1 : Int) (a2 : Int) (a3 : Int) (a4 : Int) (Q : ST → Int → Prop) : Prop := bx <| RA s → R32 a1 → R32 a2 → R32 a3 → R32 a4 → q_K mX11_counted (qs layM s) 0 0 5 [(0, .ref 139), (1, .int (Int32.ofInt a1)), (2, .int (Int32.ofInt a2)), (3, .int (Int32.ofInt a3)), (4, .int (Int32.ofInt a4))] [] (q_fin mX11_counted (PI layM Q))
set_option maxRecDepth 20000 in
theorem s_X11_counted_49 {s : ST} {a1 : Int} {a2 : Int} {a3 : Int} {a4 : Int} {Q : ST → Int → Prop} (h : RA s → R32 a1 → R32 a2 → R32 a3 → R32 a4 → ((¬ a3 = a2 → (R32 (a3 + 1) ∧ (R32 (a4 + 1) ∧ K_X11_counted_5 s a1 a2 (a3 + 1) (a4 + 1) Q))) ∧ (a3 = a2 → Q s a4))) : K_X11_counted_49 s a1 a2 a3 a4 Q := by
  refine ⟨?_, trivial⟩
  intro hA hra1 hra2 hra3 hra4
  have h := h hA hra1 hra2 hra3 hra4
  refine q_iload_n eX11_counted_49 rfl ?_
  refine q_iload_n eX11_counted_50 rfl ?_
  refine q_cz_ne (tgt := 57) (a := a3) (b := a2) eX11_counted_51 (by decide) (ofz hra3) (ofz hra2) (fun c51 => ?_) (fun c51 => ?_)
  · have h := h.1 c51
    have r1 := h.1
    have h := h.2
    refine z_inc (m := 1) eX11_counted_57 rfl (Nat.le_of_ble_eq_true rfl) rfl ?_
    have r2 := h.1
    have h := h.2
    refine z_inc (m := 1) eX11_counted_60 rfl (Nat.le_of_ble_eq_true rfl) rfl ?_
    refine q_goto (tgt := 5) eX11_counted_63 (by decide) ?_
    exact q_subL rfl (h.1 hA hra1 hra2 r1 r2)
  · have h := h.2 c51
    refine q_iload eX11_counted_54 rfl ?_
    exact q_iret eX11_counted_56 rfl ⟨_, _, rfl, hA, hra4, rfl, h⟩
set_option maxRecDepth 20000 in
theorem s_X11_counted_5 {s : ST} {a1 : Int} {a2 : Int} {a3 : Int} {a4 : Int} {Q : ST → Int → Prop} (h : RA s → R32 a1 → R32 a2 → R32 a3 → R32 a4 → (((0 : Int) ≤ s.1 139 28 ∧ s.1 139 28 < 6) ∧ (((ishl 1 (s.1 142 (s.1 139 28))) ≤ a4 → ((0 ≤ a2 → Q s (-1)) ∧ (¬ 0 ≤ a2 → Q s a3))) ∧ (¬ (ishl 1 (s.1 142 (s.1 139 28))) ≤ a4 → ((a1 = 0 → (C_X11_isCore s a4 (fun s2 v2 => (v2 = 0 ∨ v2 = 1) → ((¬ v2 = 0 → K_X11_counted_49 s2 a1 a2 a3 a4 Q) ∧ (v2 = 0 → (R32 (a4 + 1) ∧ K_X11_counted_5 s2 a1 a2 a3 (a4 + 1) Q)))))) ∧ (¬ a1 = 0 → (C_X11_isMend s a4 (fun s4 v4 => (v4 = 0 ∨ v4 = 1) → ((v4 = 0 → (R32 (a4 + 1) ∧ K_X11_counted_5 s4 a1 a2 a3 (a4 + 1) Q)) ∧ (¬ v4 = 0 → K_X11_counted_49 s4 a1 a2 a3 a4 Q)))))))))) : K_X11_counted_5 s a1 a2 a3 a4 Q := by
  refine ⟨?_, trivial⟩
  intro hA hra1 hra2 hra3 hra4
  have h := h hA hra1 hra2 hra3 hra4
  refine q_iload eX11_counted_5 rfl ?_
  refine q_ic (v := Int32.ofInt 1) eX11_counted_7 rfl ?_
  refine q_aload_n eX11_counted_8 rfl ?_
  refine q_getR (c := 11) (n := 0) (k := 11) (a := 142) eX11_counted_9 rfl (by decide) (by decide) fX11_20 rfl rfl ?_
  refine q_aload_n eX11_counted_12 rfl ?_
  refine q_getf (c := 11) (n := 0) (k := 28) (v := .int (Int32.ofInt (s.1 139 28))) eX11_counted_13 rfl (by decide) (by decide) fX11_321 rfl ?_
  have f1 := h.1
  have h := h.2
  refine z_iald (n := 6) eX11_counted_16 rfl (ofz (hA _ _)) f1 ?_
  refine q_topI (v := Int32.ofInt (s.1 142 (s.1 139 28))) rfl ?_
  refine z_ishl eX11_counted_17 ?_
  refine q_cz_ge (tgt := 66) (a := a4) (b := (ishl 1 (s.1 142 (s.1 139 28)))) eX11_counted_18 (by decide) (ofz hra4) (ofz (ishl_r _ _)) (fun c18 => ?_) (fun c18 => ?_)
  · have h := h.1 c18
    refine q_iload_n eX11_counted_66 rfl ?_
    refine q_iz_ge (tgt := 74) (a := a2) eX11_counted_67 (by decide) (ofz hra2) (fun c67 => ?_) (fun c67 => ?_)
    · have h := h.1 c67
      refine q_ic (v := Int32.ofInt (-1)) eX11_counted_74 rfl ?_
      exact q_iret eX11_counted_75 rfl ⟨_, _, rfl, hA, (r32l rfl), rfl, h⟩
    · have h := h.2 c67
      refine q_iload_n eX11_counted_70 rfl ?_
      refine q_goto (tgt := 75) eX11_counted_71 (by decide) ?_
      exact q_iret eX11_counted_75 rfl ⟨_, _, rfl, hA, hra3, rfl, h⟩
  · have h := h.2 c18
    refine q_iload_n eX11_counted_21 rfl ?_
    refine q_iz_eq (tgt := 37) (a := a1) eX11_counted_22 (by decide) (ofz hra1) (fun c22 => ?_) (fun c22 => ?_)
    · have h := h.1 c22
      refine q_aload_n eX11_counted_37 rfl ?_
      refine q_iload eX11_counted_38 rfl ?_
      refine q_V1 (ci := 11) (n := 0) eX11_counted_40 DX11_isCore lX11_482 rfl (by decide) rfl rfl rfl rfl (h.1 hA hra4) ?_
      rintro _ _ ⟨s2, v2, rfl, hA2, b2, rfl, h⟩
      have h := h b2
      refine q_iz_ne (tgt := 49) (a := v2) eX11_counted_43 (by decide) (ofz (r01 b2)) (fun c43 => ?_) (fun c43 => ?_)
      · have h := h.1 c43
        exact q_subL rfl (h.1 hA2 hra1 hra2 hra3 hra4)
      · have h := h.2 c43
        refine q_goto (tgt := 60) eX11_counted_46 (by decide) ?_
        have r3 := h.1
        have h := h.2
        refine z_inc (m := 1) eX11_counted_60 rfl (Nat.le_of_ble_eq_true rfl) rfl ?_
        refine q_goto (tgt := 5) eX11_counted_63 (by decide) ?_
        exact q_subL rfl (h.1 hA2 hra1 hra2 hra3 r3)
    · have h := h.2 c22
      refine q_aload_n eX11_counted_25 rfl ?_
      refine q_iload eX11_counted_26 rfl ?_
      refine q_V1 (ci := 11) (n := 0) eX11_counted_28 DX11_isMend lX11_479 rfl (by decide) rfl rfl rfl rfl (h.1 hA hra4) ?_
      rintro _ _ ⟨s4, v4, rfl, hA4, b4, rfl, h⟩
      have h := h b4
      refine q_iz_eq (tgt := 60) (a := v4) eX11_counted_31 (by decide) (ofz (r01 b4)) (fun c31 => ?_) (fun c31 => ?_)
      · have h := h.1 c31
        have r5 := h.1
        have h := h.2
        refine z_inc (m := 1) eX11_counted_60 rfl (Nat.le_of_ble_eq_true rfl) rfl ?_
        refine q_goto (tgt := 5) eX11_counted_63 (by decide) ?_
        exact q_subL rfl (h.1 hA4 hra1 hra2 hra3 r5)
      · have h := h.2 c31
        refine q_goto (tgt := 49) eX11_counted_34 (by decide) ?_
        exact q_subL rfl (h.1 hA4 hra1 hra2 hra3 hra4)
set_option maxRecDepth 20000 in
theorem s_X11_counted {s : ST} {p : Int} {q : Int} {Q : ST → Int → Prop} (h : RA s → R32 p → R32 q → K_X11_counted_5 s p q 0 0 Q) : C_X11_counted s p q Q := by
  refine ⟨?_, trivial⟩
  intro hA hrp hrq
  have h := h hA hrp hrq
  refine q_enter (by decide) (Nat.le_of_ble_eq_true rfl) ?_
  refine q_ic (v := Int32.ofInt 0) eX11_counted_0 rfl ?_
  refine q_istore_n eX11_counted_1 (Nat.le_of_ble_eq_true rfl) ?_
  refine q_ic (v := Int32.ofInt 0) eX11_counted_2 rfl ?_
  refine q_istore eX11_counted_3 (Nat.le_of_ble_eq_true rfl) ?_
  exact q_subL rfl (h.1 hA hrp hrq (r32l rfl) (r32l rfl))
theorem eX11_cores_0 : decode cX11_cores 0 = .ok (.aload_n 0, 1) := by decide +kernel
theorem eX11_cores_1 : decode cX11_cores 1 = .ok (.invokevirtual 485, 3) := by decide +kernel
theorem eX11_cores_4 : decode cX11_cores 4 = .ok (.ifCond .eq 12, 3) := by decide +kernel
theorem eX11_cores_7 : decode cX11_cores 7 = .ok (.aload_n 0, 1) := by decide +kernel
theorem eX11_cores_8 : decode cX11_cores 8 = .ok (.iconst 0, 1) := by decide +kernel
theorem eX11_cores_9 : decode cX11_cores 9 = .ok (.iconst (-1), 1) := by decide +kernel
theorem eX11_cores_10 : decode cX11_cores 10 = .ok (.invokevirtual 488, 3) := by decide +kernel
theorem eX11_cores_13 : decode cX11_cores 13 = .ok (.goto 5, 3) := by decide +kernel
theorem eX11_cores_16 : decode cX11_cores 16 = .ok (.bipush (-2), 2) := by decide +kernel
theorem eX11_cores_18 : decode cX11_cores 18 = .ok (.ireturn, 1) := by decide +kernel
def C_X11_cores (s : ST) (Q : ST → Int → Prop) : Prop := bx <| RA s → q_met mX11_cores (qs layM s) [.ref 139] (PI layM Q)
theorem C_X11_cores.mono {s : ST} {Q Q' : ST → Int → Prop} (h : C_X11_cores s Q) (hq : ∀ s v, Q s v → Q' s v) : C_X11_cores s Q' := ⟨fun hA => q_met.mono (h.1 hA) (fun _ _ => PI.mono hq), trivial⟩
set_option maxRecDepth 20000 in
theorem s_X11_cores {s : ST} {Q : ST → Int → Prop} (h : RA s → (C_X11_layClashes s (fun s1 v1 => (v1 = 0 ∨ v1 = 1) → ((v1 = 0 → Q s1 (-2)) ∧ (¬ v1 = 0 → (C_X11_counted s1 0 (-1) (fun s2 v2 => Q s2 v2))))))) : C_X11_cores s Q := by
  refine ⟨?_, trivial⟩
  intro hA
  have h := h hA
  refine q_enter (by decide) (Nat.le_of_ble_eq_true rfl) ?_
  refine q_aload_n eX11_cores_0 rfl ?_
  refine q_V0 (ci := 11) (n := 0) eX11_cores_1 DX11_layClashes lX11_485 rfl (by decide) rfl rfl rfl rfl (h.1 hA) ?_
  rintro _ _ ⟨s1, v1, rfl, hA1, b1, rfl, h⟩
  have h := h b1
  refine q_iz_eq (tgt := 16) (a := v1) eX11_cores_4 (by decide) (ofz (r01 b1)) (fun c4 => ?_) (fun c4 => ?_)
  · have h := h.1 c4
    refine q_bi (v := Int32.ofInt (-2)) eX11_cores_16 rfl ?_
    exact q_iret eX11_cores_18 rfl ⟨_, _, rfl, hA1, (r32l rfl), rfl, h⟩
  · have h := h.2 c4
    refine q_aload_n eX11_cores_7 rfl ?_
    refine q_ic (v := Int32.ofInt 0) eX11_cores_8 rfl ?_
    refine q_ic (v := Int32.ofInt (-1)) eX11_cores_9 rfl ?_
    refine q_V2 (ci := 11) (n := 0) eX11_cores_10 DX11_counted lX11_488 rfl (by decide) rfl rfl rfl rfl (h.1 hA1 (r32l rfl) (r32l rfl)) ?_
    rintro _ _ ⟨s2, v2, rfl, hA2, r2, rfl, h⟩
    refine q_goto (tgt := 18) eX11_cores_13 (by decide) ?_
    exact q_iret eX11_cores_18 rfl ⟨_, _, rfl, hA2, r2, rfl, h⟩
theorem eX11_coreAt_0 : decode cX11_coreAt 0 = .ok (.iload_n 1, 1) := by decide +kernel
theorem eX11_coreAt_1 : decode cX11_coreAt 1 = .ok (.ifCond .lt 10, 3) := by decide +kernel
theorem eX11_coreAt_4 : decode cX11_coreAt 4 = .ok (.aload_n 0, 1) := by decide +kernel
theorem eX11_coreAt_5 : decode cX11_coreAt 5 = .ok (.invokevirtual 485, 3) := by decide +kernel
theorem eX11_coreAt_8 : decode cX11_coreAt 8 = .ok (.ifCond .ne 9, 3) := by decide +kernel
theorem eX11_coreAt_11 : decode cX11_coreAt 11 = .ok (.ldc2_w 473, 3) := by decide +kernel
theorem eX11_coreAt_14 : decode cX11_coreAt 14 = .ok (.goto 10, 3) := by decide +kernel
theorem eX11_coreAt_17 : decode cX11_coreAt 17 = .ok (.aload_n 0, 1) := by decide +kernel
theorem eX11_coreAt_18 : decode cX11_coreAt 18 = .ok (.iconst 0, 1) := by decide +kernel
theorem eX11_coreAt_19 : decode cX11_coreAt 19 = .ok (.iload_n 1, 1) := by decide +kernel
theorem eX11_coreAt_20 : decode cX11_coreAt 20 = .ok (.invokevirtual 488, 3) := by decide +kernel
theorem eX11_coreAt_23 : decode cX11_coreAt 23 = .ok (.i2l, 1) := by decide +kernel
theorem eX11_coreAt_24 : decode cX11_coreAt 24 = .ok (.lreturn, 1) := by decide +kernel
def C_X11_coreAt (s : ST) (p : Int) (Q : ST → Int64 → Prop) : Prop := bx <| RA s → R32 p → q_met mX11_coreAt (qs layM s) [.ref 139, .int (Int32.ofInt p)] (PL layM Q)
theorem C_X11_coreAt.mono {s : ST} {p : Int} {Q Q' : ST → Int64 → Prop} (h : C_X11_coreAt s p Q) (hq : ∀ s v, Q s v → Q' s v) : C_X11_coreAt s p Q' := ⟨fun hA hrp => q_met.mono (h.1 hA hrp) (fun _ _ => PL.mono hq), trivial⟩
set_option maxRecDepth 20000 in
theorem s_X11_coreAt {s : ST} {p : Int} {Q : ST → Int64 → Prop} (h : RA s → R32 p → ((p < 0 → Q s (-1)) ∧ (¬ p < 0 → (C_X11_layClashes s (fun s1 v1 => (v1 = 0 ∨ v1 = 1) → ((¬ v1 = 0 → (C_X11_counted s1 0 p (fun s2 v2 => Q s2 (Int64.ofInt v2)))) ∧ (v1 = 0 → Q s1 (-1)))))))) : C_X11_coreAt s p Q := by
  refine ⟨?_, trivial⟩
  intro hA hrp
  have h := h hA hrp
  refine q_enter (by decide) (Nat.le_of_ble_eq_true rfl) ?_
  refine q_iload_n eX11_coreAt_0 rfl ?_
  refine q_iz_lt (tgt := 11) (a := p) eX11_coreAt_1 (by decide) (ofz hrp) (fun c1 => ?_) (fun c1 => ?_)
  · have h := h.1 c1
    refine q_ldc2 (v := (-1)) eX11_coreAt_11 nX11_473 ?_
    refine q_goto (tgt := 24) eX11_coreAt_14 (by decide) ?_
    exact q_lret eX11_coreAt_24 rfl ⟨_, _, rfl, hA, rfl, h⟩
  · have h := h.2 c1
    refine q_aload_n eX11_coreAt_4 rfl ?_
    refine q_V0 (ci := 11) (n := 0) eX11_coreAt_5 DX11_layClashes lX11_485 rfl (by decide) rfl rfl rfl rfl (h.1 hA) ?_
    rintro _ _ ⟨s1, v1, rfl, hA1, b1, rfl, h⟩
    have h := h b1
    refine q_iz_ne (tgt := 17) (a := v1) eX11_coreAt_8 (by decide) (ofz (r01 b1)) (fun c8 => ?_) (fun c8 => ?_)
    · have h := h.1 c8
      refine q_aload_n eX11_coreAt_17 rfl ?_
      refine q_ic (v := Int32.ofInt 0) eX11_coreAt_18 rfl ?_
      refine q_iload_n eX11_coreAt_19 rfl ?_
      refine q_V2 (ci := 11) (n := 0) eX11_coreAt_20 DX11_counted lX11_488 rfl (by decide) rfl rfl rfl rfl (h.1 hA1 (r32l rfl) hrp) ?_
      rintro _ _ ⟨s2, v2, rfl, hA2, r2, rfl, h⟩
      refine z_i2l eX11_coreAt_23 r2 ?_
      exact q_lret eX11_coreAt_24 rfl ⟨_, _, rfl, hA2, rfl, h⟩
    · have h := h.2 c8
      refine q_ldc2 (v := (-1)) eX11_coreAt_11 nX11_473 ?_
      refine q_goto (tgt := 24) eX11_coreAt_14 (by decide) ?_
      exact q_lret eX11_coreAt_24 rfl ⟨_, _, rfl, hA1, rfl, h⟩
theorem eX11_mends_0 : decode cX11_mends 0 = .ok (.aload_n 0, 1) := by decide +kernel
theorem eX11_mends_1 : decode cX11_mends 1 = .ok (.invokevirtual 485, 3) := by decide +kernel
theorem eX11_mends_4 : decode cX11_mends 4 = .ok (.ifCond .eq 12, 3) := by decide +kernel
theorem eX11_mends_7 : decode cX11_mends 7 = .ok (.aload_n 0, 1) := by decide +kernel
theorem eX11_mends_8 : decode cX11_mends 8 = .ok (.iconst 1, 1) := by decide +kernel
theorem eX11_mends_9 : decode cX11_mends 9 = .ok (.iconst (-1), 1) := by decide +kernel
theorem eX11_mends_10 : decode cX11_mends 10 = .ok (.invokevirtual 488, 3) := by decide +kernel
theorem eX11_mends_13 : decode cX11_mends 13 = .ok (.goto 5, 3) := by decide +kernel
theorem eX11_mends_16 : decode cX11_mends 16 = .ok (.bipush (-2), 2) := by decide +kernel
theorem eX11_mends_18 : decode cX11_mends 18 = .ok (.ireturn, 1) := by decide +kernel
def C_X11_mends (s : ST) (Q : ST → Int → Prop) : Prop := bx <| RA s → q_met mX11_mends (qs layM s) [.ref 139] (PI layM Q)
theorem C_X11_mends.mono {s : ST} {Q Q' : ST → Int → Prop} (h : C_X11_mends s Q) (hq : ∀ s v, Q s v → Q' s v) : C_X11_mends s Q' := ⟨fun hA => q_met.mono (h.1 hA) (fun _ _ => PI.mono hq), trivial⟩
set_option maxRecDepth 20000 in
theorem s_X11_mends {s : ST} {Q : ST → Int → Prop} (h : RA s → (C_X11_layClashes s (fun s1 v1 => (v1 = 0 ∨ v1 = 1) → ((v1 = 0 → Q s1 (-2)) ∧ (¬ v1 = 0 → (C_X11_counted s1 1 (-1) (fun s2 v2 => Q s2 v2))))))) : C_X11_mends s Q := by
  refine ⟨?_, trivial⟩
  intro hA
  have h := h hA
  refine q_enter (by decide) (Nat.le_of_ble_eq_true rfl) ?_
  refine q_aload_n eX11_mends_0 rfl ?_
  refine q_V0 (ci := 11) (n := 0) eX11_mends_1 DX11_layClashes lX11_485 rfl (by decide) rfl rfl rfl rfl (h.1 hA) ?_
  rintro _ _ ⟨s1, v1, rfl, hA1, b1, rfl, h⟩
  have h := h b1
  refine q_iz_eq (tgt := 16) (a := v1) eX11_mends_4 (by decide) (ofz (r01 b1)) (fun c4 => ?_) (fun c4 => ?_)
  · have h := h.1 c4
    refine q_bi (v := Int32.ofInt (-2)) eX11_mends_16 rfl ?_
    exact q_iret eX11_mends_18 rfl ⟨_, _, rfl, hA1, (r32l rfl), rfl, h⟩
  · have h := h.2 c4
    refine q_aload_n eX11_mends_7 rfl ?_
    refine q_ic (v := Int32.ofInt 1) eX11_mends_8 rfl ?_
    refine q_ic (v := Int32.ofInt (-1)) eX11_mends_9 rfl ?_
    refine q_V2 (ci := 11) (n := 0) eX11_mends_10 DX11_counted lX11_488 rfl (by decide) rfl rfl rfl rfl (h.1 hA1 (r32l rfl) (r32l rfl)) ?_
    rintro _ _ ⟨s2, v2, rfl, hA2, r2, rfl, h⟩
    refine q_goto (tgt := 18) eX11_mends_13 (by decide) ?_
    exact q_iret eX11_mends_18 rfl ⟨_, _, rfl, hA2, r2, rfl, h⟩
theorem eX11_mendAt_0 : decode cX11_mendAt 0 = .ok (.iload_n 1, 1) := by decide +kernel
theorem eX11_mendAt_1 : decode cX11_mendAt 1 = .ok (.ifCond .lt 10, 3) := by decide +kernel
theorem eX11_mendAt_4 : decode cX11_mendAt 4 = .ok (.aload_n 0, 1) := by decide +kernel
theorem eX11_mendAt_5 : decode cX11_mendAt 5 = .ok (.invokevirtual 485, 3) := by decide +kernel
theorem eX11_mendAt_8 : decode cX11_mendAt 8 = .ok (.ifCond .ne 9, 3) := by decide +kernel
theorem eX11_mendAt_11 : decode cX11_mendAt 11 = .ok (.ldc2_w 473, 3) := by decide +kernel
theorem eX11_mendAt_14 : decode cX11_mendAt 14 = .ok (.goto 10, 3) := by decide +kernel
theorem eX11_mendAt_17 : decode cX11_mendAt 17 = .ok (.aload_n 0, 1) := by decide +kernel
theorem eX11_mendAt_18 : decode cX11_mendAt 18 = .ok (.iconst 1, 1) := by decide +kernel
theorem eX11_mendAt_19 : decode cX11_mendAt 19 = .ok (.iload_n 1, 1) := by decide +kernel
theorem eX11_mendAt_20 : decode cX11_mendAt 20 = .ok (.invokevirtual 488, 3) := by decide +kernel
theorem eX11_mendAt_23 : decode cX11_mendAt 23 = .ok (.i2l, 1) := by decide +kernel
theorem eX11_mendAt_24 : decode cX11_mendAt 24 = .ok (.lreturn, 1) := by decide +kernel
def C_X11_mendAt (s : ST) (p : Int) (Q : ST → Int64 → Prop) : Prop := bx <| RA s → R32 p → q_met mX11_mendAt (qs layM s) [.ref 139, .int (Int32.ofInt p)] (PL layM Q)
theorem C_X11_mendAt.mono {s : ST} {p : Int} {Q Q' : ST → Int64 → Prop} (h : C_X11_mendAt s p Q) (hq : ∀ s v, Q s v → Q' s v) : C_X11_mendAt s p Q' := ⟨fun hA hrp => q_met.mono (h.1 hA hrp) (fun _ _ => PL.mono hq), trivial⟩
set_option maxRecDepth 20000 in
theorem s_X11_mendAt {s : ST} {p : Int} {Q : ST → Int64 → Prop} (h : RA s → R32 p → ((p < 0 → Q s (-1)) ∧ (¬ p < 0 → (C_X11_layClashes s (fun s1 v1 => (v1 = 0 ∨ v1 = 1) → ((¬ v1 = 0 → (C_X11_counted s1 1 p (fun s2 v2 => Q s2 (Int64.ofInt v2)))) ∧ (v1 = 0 → Q s1 (-1)))))))) : C_X11_mendAt s p Q := by
  refine ⟨?_, trivial⟩
  intro hA hrp
  have h := h hA hrp
  refine q_enter (by decide) (Nat.le_of_ble_eq_true rfl) ?_
  refine q_iload_n eX11_mendAt_0 rfl ?_
  refine q_iz_lt (tgt := 11) (a := p) eX11_mendAt_1 (by decide) (ofz hrp) (fun c1 => ?_) (fun c1 => ?_)
  · have h := h.1 c1
    refine q_ldc2 (v := (-1)) eX11_mendAt_11 nX11_473 ?_
    refine q_goto (tgt := 24) eX11_mendAt_14 (by decide) ?_
    exact q_lret eX11_mendAt_24 rfl ⟨_, _, rfl, hA, rfl, h⟩
  · have h := h.2 c1
    refine q_aload_n eX11_mendAt_4 rfl ?_
    refine q_V0 (ci := 11) (n := 0) eX11_mendAt_5 DX11_layClashes lX11_485 rfl (by decide) rfl rfl rfl rfl (h.1 hA) ?_
    rintro _ _ ⟨s1, v1, rfl, hA1, b1, rfl, h⟩
    have h := h b1
    refine q_iz_ne (tgt := 17) (a := v1) eX11_mendAt_8 (by decide) (ofz (r01 b1)) (fun c8 => ?_) (fun c8 => ?_)
    · have h := h.1 c8
      refine q_aload_n eX11_mendAt_17 rfl ?_
      refine q_ic (v := Int32.ofInt 1) eX11_mendAt_18 rfl ?_
      refine q_iload_n eX11_mendAt_19 rfl ?_
      refine q_V2 (ci := 11) (n := 0) eX11_mendAt_20 DX11_counted lX11_488 rfl (by decide) rfl rfl rfl rfl (h.1 hA1 (r32l rfl) hrp) ?_
      rintro _ _ ⟨s2, v2, rfl, hA2, r2, rfl, h⟩
      refine z_i2l eX11_mendAt_23 r2 ?_
      exact q_lret eX11_mendAt_24 rfl ⟨_, _, rfl, hA2, rfl, h⟩
    · have h := h.2 c8
      refine q_ldc2 (v := (-1)) eX11_mendAt_11 nX11_473 ?_
      refine q_goto (tgt := 24) eX11_mendAt_14 (by decide) ?_
      exact q_lret eX11_mendAt_24 rfl ⟨_, _, rfl, hA1, rfl, h⟩
theorem eX11_trust_0 : decode cX11_trust 0 = .ok (.aload_n 0, 1) := by decide +kernel
theorem eX11_trust_1 : decode cX11_trust 1 = .ok (.iload_n 1, 1) := by decide +kernel
theorem eX11_trust_2 : decode cX11_trust 2 = .ok (.invokevirtual 383, 3) := by decide +kernel
theorem eX11_trust_5 : decode cX11_trust 5 = .ok (.ifCond .eq 13, 3) := by decide +kernel
theorem eX11_trust_8 : decode cX11_trust 8 = .ok (.iload_n 2, 1) := by decide +kernel
theorem eX11_trust_9 : decode cX11_trust 9 = .ok (.iconst 1, 1) := by decide +kernel
theorem eX11_trust_10 : decode cX11_trust 10 = .ok (.bipush 100, 2) := by decide +kernel
theorem eX11_trust_12 : decode cX11_trust 12 = .ok (.invokestatic 379, 3) := by decide +kernel
theorem eX11_trust_15 : decode cX11_trust 15 = .ok (.ifCond .ne 5, 3) := by decide +kernel
theorem eX11_trust_18 : decode cX11_trust 18 = .ok (.iconst (-1), 1) := by decide +kernel
theorem eX11_trust_19 : decode cX11_trust 19 = .ok (.ireturn, 1) := by decide +kernel
theorem eX11_trust_20 : decode cX11_trust 20 = .ok (.aload_n 0, 1) := by decide +kernel
theorem eX11_trust_21 : decode cX11_trust 21 = .ok (.getfield 128, 3) := by decide +kernel
theorem eX11_trust_24 : decode cX11_trust 24 = .ok (.iload_n 1, 1) := by decide +kernel
theorem eX11_trust_25 : decode cX11_trust 25 = .ok (.iaload, 1) := by decide +kernel
theorem eX11_trust_26 : decode cX11_trust 26 = .ok (.istore_n 3, 1) := by decide +kernel
theorem eX11_trust_27 : decode cX11_trust 27 = .ok (.aload_n 0, 1) := by decide +kernel
theorem eX11_trust_28 : decode cX11_trust 28 = .ok (.getfield 128, 3) := by decide +kernel
theorem eX11_trust_31 : decode cX11_trust 31 = .ok (.iload_n 1, 1) := by decide +kernel
theorem eX11_trust_32 : decode cX11_trust 32 = .ok (.iload_n 2, 1) := by decide +kernel
theorem eX11_trust_33 : decode cX11_trust 33 = .ok (.iastore, 1) := by decide +kernel
theorem eX11_trust_34 : decode cX11_trust 34 = .ok (.aload_n 0, 1) := by decide +kernel
theorem eX11_trust_35 : decode cX11_trust 35 = .ok (.iconst 0, 1) := by decide +kernel
theorem eX11_trust_36 : decode cX11_trust 36 = .ok (.putfield 492, 3) := by decide +kernel
theorem eX11_trust_39 : decode cX11_trust 39 = .ok (.aload_n 0, 1) := by decide +kernel
theorem eX11_trust_40 : decode cX11_trust 40 = .ok (.iconst 0, 1) := by decide +kernel
theorem eX11_trust_41 : decode cX11_trust 41 = .ok (.putfield 496, 3) := by decide +kernel
theorem eX11_trust_44 : decode cX11_trust 44 = .ok (.iload_n 3, 1) := by decide +kernel
theorem eX11_trust_45 : decode cX11_trust 45 = .ok (.ireturn, 1) := by decide +kernel
def C_X11_trust (s : ST) (p : Int) (q : Int) (Q : ST → Int → Prop) : Prop := bx <| RA s → R32 p → R32 q → q_met mX11_trust (qs layM s) [.ref 139, .int (Int32.ofInt p), .int (Int32.ofInt q)] (PI layM Q)
theorem C_X11_trust.mono {s : ST} {p : Int} {q : Int} {Q Q' : ST → Int → Prop} (h : C_X11_trust s p q Q) (hq : ∀ s v, Q s v → Q' s v) : C_X11_trust s p q Q' := ⟨fun hA hrp hrq => q_met.mono (h.1 hA hrp hrq) (fun _ _ => PI.mono hq), trivial⟩
set_option maxRecDepth 20000 in
theorem s_X11_trust {s : ST} {p : Int} {q : Int} {Q : ST → Int → Prop} (h : RA s → R32 p → R32 q → (P_X11_isPlace s p ∧ ((¬ (¬ (F_X11_isIn s p 0 (s.1 142 (s.1 139 28) - 1)) = 0) → Q s (-1)) ∧ ((¬ (F_X11_isIn s p 0 (s.1 142 (s.1 139 28) - 1)) = 0) → (((¬ q < 1 ∧ ¬ 100 < q) → (((0 : Int) ≤ p ∧ p < 40) ∧ Q (ui (ui (ui s 176 p q) 139 62 0) 139 63 0) (s.1 176 p))) ∧ (¬ (¬ q < 1 ∧ ¬ 100 < q) → Q s (-1))))))) : C_X11_trust s p q Q := by
  refine ⟨?_, trivial⟩
  intro hA hrp hrq
  have h := h hA hrp hrq
  refine q_enter (by decide) (Nat.le_of_ble_eq_true rfl) ?_
  refine q_aload_n eX11_trust_0 rfl ?_
  refine q_iload_n eX11_trust_1 rfl ?_
  have f2 := h.1
  have h := h.2
  refine q_V1 (ci := 11) (n := 0) eX11_trust_2 DX11_isPlace lX11_383 rfl (by decide) rfl rfl rfl rfl (p_X11_isPlace f2 hA hrp) ?_
  rintro _ _ ⟨b1, rfl, rfl⟩
  refine q_iz_eq (tgt := 18) (a := (F_X11_isPlace s p)) eX11_trust_5 (by decide) (ofz (r01 b1)) (fun c5 => ?_) (fun c5 => ?_)
  · have h := h.1 (fun q => n_X11_isPlace.mpr q c5)
    refine q_ic (v := Int32.ofInt (-1)) eX11_trust_18 rfl ?_
    exact q_iret eX11_trust_19 rfl ⟨_, _, rfl, hA, (r32l rfl), rfl, h⟩
  · have h := h.2 (n_X11_isPlace.mp c5)
    refine q_iload_n eX11_trust_8 rfl ?_
    refine q_ic (v := Int32.ofInt 1) eX11_trust_9 rfl ?_
    refine q_bi (v := Int32.ofInt 100) eX11_trust_10 rfl ?_
    refine q_S3 eX11_trust_12 DX11_isIn lX11_379 rfl rfl rfl (p_X11_isIn hA hrq (r32l rfl) (r32l rfl)) ?_
    rintro _ _ ⟨b3, rfl, rfl⟩
    refine q_iz_ne (tgt := 20) (a := (F_X11_isIn s q 1 100)) eX11_trust_15 (by decide) (ofz (r01 b3)) (fun c15 => ?_) (fun c15 => ?_)
    · have h := h.1 (n_X11_isIn.mp c15)
      refine q_aload_n eX11_trust_20 rfl ?_
      refine q_getR (c := 11) (n := 0) (k := 54) (a := 176) eX11_trust_21 rfl (by decide) (by decide) fX11_128 rfl rfl ?_
      refine q_iload_n eX11_trust_24 rfl ?_
      have f4 := h.1
      have h := h.2
      refine z_iald (n := 40) eX11_trust_25 rfl (ofz hrp) f4 ?_
      refine q_topI (v := Int32.ofInt (s.1 176 p)) rfl ?_
      refine q_istore_n eX11_trust_26 (Nat.le_of_ble_eq_true rfl) ?_
      refine q_aload_n eX11_trust_27 rfl ?_
      refine q_getR (c := 11) (n := 0) (k := 54) (a := 176) eX11_trust_28 rfl (by decide) (by decide) fX11_128 rfl rfl ?_
      refine q_iload_n eX11_trust_31 rfl ?_
      refine q_iload_n eX11_trust_32 rfl ?_
      refine z_iast (n := 40) eX11_trust_33 rfl (ofz hrp) f4  ?_
      refine q_aload_n eX11_trust_34 rfl ?_
      refine q_ic (v := Int32.ofInt 0) eX11_trust_35 rfl ?_
      refine z_putZ (c := 11) (n := 0) (k := 62) (kz := 62) eX11_trust_36 rfl (by decide) (by decide) fX11_492 rfl rfl rfl (z01 (Or.inl rfl)) ?_
      refine q_aload_n eX11_trust_39 rfl ?_
      refine q_ic (v := Int32.ofInt 0) eX11_trust_40 rfl ?_
      refine z_putZ (c := 11) (n := 0) (k := 63) (kz := 63) eX11_trust_41 rfl (by decide) (by decide) fX11_496 rfl rfl rfl (z01 (Or.inl rfl)) ?_
      refine q_iload_n eX11_trust_44 rfl ?_
      exact q_iret eX11_trust_45 rfl ⟨_, _, rfl, (ra_ui (ra_ui (ra_ui hA hrq) (r32l rfl)) (r32l rfl)), (hA _ _), rfl, h⟩
    · have h := h.2 (fun q => n_X11_isIn.mpr q c15)
      refine q_ic (v := Int32.ofInt (-1)) eX11_trust_18 rfl ?_
      exact q_iret eX11_trust_19 rfl ⟨_, _, rfl, hA, (r32l rfl), rfl, h⟩
theorem eX11_wholeTrust_0 : decode cX11_wholeTrust 0 = .ok (.iconst 0, 1) := by decide +kernel
theorem eX11_wholeTrust_1 : decode cX11_wholeTrust 1 = .ok (.istore_n 1, 1) := by decide +kernel
theorem eX11_wholeTrust_2 : decode cX11_wholeTrust 2 = .ok (.iconst 0, 1) := by decide +kernel
theorem eX11_wholeTrust_3 : decode cX11_wholeTrust 3 = .ok (.istore_n 2, 1) := by decide +kernel
theorem eX11_wholeTrust_4 : decode cX11_wholeTrust 4 = .ok (.iload_n 2, 1) := by decide +kernel
theorem eX11_wholeTrust_5 : decode cX11_wholeTrust 5 = .ok (.aload_n 0, 1) := by decide +kernel
theorem eX11_wholeTrust_6 : decode cX11_wholeTrust 6 = .ok (.getfield 20, 3) := by decide +kernel
theorem eX11_wholeTrust_9 : decode cX11_wholeTrust 9 = .ok (.aload_n 0, 1) := by decide +kernel
theorem eX11_wholeTrust_10 : decode cX11_wholeTrust 10 = .ok (.getfield 321, 3) := by decide +kernel
theorem eX11_wholeTrust_13 : decode cX11_wholeTrust 13 = .ok (.iaload, 1) := by decide +kernel
theorem eX11_wholeTrust_14 : decode cX11_wholeTrust 14 = .ok (.if_icmp .ge 18, 3) := by decide +kernel
theorem eX11_wholeTrust_17 : decode cX11_wholeTrust 17 = .ok (.iload_n 1, 1) := by decide +kernel
theorem eX11_wholeTrust_18 : decode cX11_wholeTrust 18 = .ok (.aload_n 0, 1) := by decide +kernel
theorem eX11_wholeTrust_19 : decode cX11_wholeTrust 19 = .ok (.getfield 128, 3) := by decide +kernel
theorem eX11_wholeTrust_22 : decode cX11_wholeTrust 22 = .ok (.iload_n 2, 1) := by decide +kernel
theorem eX11_wholeTrust_23 : decode cX11_wholeTrust 23 = .ok (.iaload, 1) := by decide +kernel
theorem eX11_wholeTrust_24 : decode cX11_wholeTrust 24 = .ok (.iadd, 1) := by decide +kernel
theorem eX11_wholeTrust_25 : decode cX11_wholeTrust 25 = .ok (.istore_n 1, 1) := by decide +kernel
theorem eX11_wholeTrust_26 : decode cX11_wholeTrust 26 = .ok (.iinc 2 1, 3) := by decide +kernel
theorem eX11_wholeTrust_29 : decode cX11_wholeTrust 29 = .ok (.goto (-25), 3) := by decide +kernel
theorem eX11_wholeTrust_32 : decode cX11_wholeTrust 32 = .ok (.iload_n 1, 1) := by decide +kernel
theorem eX11_wholeTrust_33 : decode cX11_wholeTrust 33 = .ok (.ireturn, 1) := by decide +kernel
def C_X11_wholeTrust (s : ST) (Q : ST → Int → Prop) : Prop := bx <| RA s → q_met mX11_wholeTrust (qs layM s) [.ref 139] (PI layM Q)
theorem C_X11_wholeTrust.mono {s : ST} {Q Q' : ST → Int → Prop} (h : C_X11_wholeTrust s Q) (hq : ∀ s v, Q s v → Q' s v) : C_X11_wholeTrust s Q' := ⟨fun hA => q_met.mono (h.1 hA) (fun _ _ => PI.mono hq), trivial⟩
def K_X11_wholeTrust_4 (s : ST) (a1 : Int) (a2 : Int) (Q : ST → Int → Prop) : Prop := bx <| RA s → R32 a1 → R32 a2 → q_K mX11_wholeTrust (qs layM s) 0 0 4 [(0, .ref 139), (1, .int (Int32.ofInt a1)), (2, .int (Int32.ofInt a2))] [] (q_fin mX11_wholeTrust (PI layM Q))
set_option maxRecDepth 20000 in
theorem s_X11_wholeTrust_4 {s : ST} {a1 : Int} {a2 : Int} {Q : ST → Int → Prop} (h : RA s → R32 a1 → R32 a2 → (((0 : Int) ≤ s.1 139 28 ∧ s.1 139 28 < 6) ∧ ((s.1 142 (s.1 139 28) ≤ a2 → Q s a1) ∧ (¬ s.1 142 (s.1 139 28) ≤ a2 → (((0 : Int) ≤ a2 ∧ a2 < 40) ∧ (R32 (a1 + s.1 176 a2) ∧ (R32 (a2 + 1) ∧ K_X11_wholeTrust_4 s (a1 + s.1 176 a2) (a2 + 1) Q))))))) : K_X11_wholeTrust_4 s a1 a2 Q := by
  refine ⟨?_, trivial⟩
  intro hA hra1 hra2
  have h := h hA hra1 hra2
  refine q_iload_n eX11_wholeTrust_4 rfl ?_
  refine q_aload_n eX11_wholeTrust_5 rfl ?_
  refine q_getR (c := 11) (n := 0) (k := 11) (a := 142) eX11_wholeTrust_6 rfl (by decide) (by decide) fX11_20 rfl rfl ?_
  refine q_aload_n eX11_wholeTrust_9 rfl ?_
  refine q_getf (c := 11) (n := 0) (k := 28) (v := .int (Int32.ofInt (s.1 139 28))) eX11_wholeTrust_10 rfl (by decide) (by decide) fX11_321 rfl ?_
  have f1 := h.1
  have h := h.2
  refine z_iald (n := 6) eX11_wholeTrust_13 rfl (ofz (hA _ _)) f1 ?_
  refine q_topI (v := Int32.ofInt (s.1 142 (s.1 139 28))) rfl ?_
  refine q_cz_ge (tgt := 32) (a := a2) (b := s.1 142 (s.1 139 28)) eX11_wholeTrust_14 (by decide) (ofz hra2) (ofz (hA _ _)) (fun c14 => ?_) (fun c14 => ?_)
  · have h := h.1 c14
    refine q_iload_n eX11_wholeTrust_32 rfl ?_
    exact q_iret eX11_wholeTrust_33 rfl ⟨_, _, rfl, hA, hra1, rfl, h⟩
  · have h := h.2 c14
    refine q_iload_n eX11_wholeTrust_17 rfl ?_
    refine q_aload_n eX11_wholeTrust_18 rfl ?_
    refine q_getR (c := 11) (n := 0) (k := 54) (a := 176) eX11_wholeTrust_19 rfl (by decide) (by decide) fX11_128 rfl rfl ?_
    refine q_iload_n eX11_wholeTrust_22 rfl ?_
    have f2 := h.1
    have h := h.2
    refine z_iald (n := 40) eX11_wholeTrust_23 rfl (ofz hra2) f2 ?_
    refine q_topI (v := Int32.ofInt (s.1 176 a2)) rfl ?_
    refine z_iadd eX11_wholeTrust_24 ?_
    have r3 := h.1
    have h := h.2
    refine q_istore_n eX11_wholeTrust_25 (Nat.le_of_ble_eq_true rfl) ?_
    have r4 := h.1
    have h := h.2
    refine z_inc (m := 1) eX11_wholeTrust_26 rfl (Nat.le_of_ble_eq_true rfl) rfl ?_
    refine q_goto (tgt := 4) eX11_wholeTrust_29 (by decide) ?_
    exact q_subL rfl (h.1 hA r3 r4)
set_option maxRecDepth 20000 in
theorem s_X11_wholeTrust {s : ST} {Q : ST → Int → Prop} (h : RA s → K_X11_wholeTrust_4 s 0 0 Q) : C_X11_wholeTrust s Q := by
  refine ⟨?_, trivial⟩
  intro hA
  have h := h hA
  refine q_enter (by decide) (Nat.le_of_ble_eq_true rfl) ?_
  refine q_ic (v := Int32.ofInt 0) eX11_wholeTrust_0 rfl ?_
  refine q_istore_n eX11_wholeTrust_1 (Nat.le_of_ble_eq_true rfl) ?_
  refine q_ic (v := Int32.ofInt 0) eX11_wholeTrust_2 rfl ?_
  refine q_istore_n eX11_wholeTrust_3 (Nat.le_of_ble_eq_true rfl) ?_
  exact q_subL rfl (h.1 hA (r32l rfl) (r32l rfl))
theorem eX11_level_0 : decode cX11_level 0 = .ok (.aload_n 0, 1) := by decide +kernel
theorem eX11_level_1 : decode cX11_level 1 = .ok (.invokevirtual 463, 3) := by decide +kernel
theorem eX11_level_4 : decode cX11_level 4 = .ok (.aload_n 0, 1) := by decide +kernel
theorem eX11_level_5 : decode cX11_level 5 = .ok (.getfield 131, 3) := by decide +kernel
theorem eX11_level_8 : decode cX11_level 8 = .ok (.iload_n 1, 1) := by decide +kernel
theorem eX11_level_9 : decode cX11_level 9 = .ok (.laload, 1) := by decide +kernel
theorem eX11_level_10 : decode cX11_level 10 = .ok (.ldc2_w 473, 3) := by decide +kernel
theorem eX11_level_13 : decode cX11_level 13 = .ok (.lxor, 1) := by decide +kernel
theorem eX11_level_14 : decode cX11_level 14 = .ok (.land, 1) := by decide +kernel
theorem eX11_level_15 : decode cX11_level 15 = .ok (.lstore_n 2, 1) := by decide +kernel
theorem eX11_level_16 : decode cX11_level 16 = .ok (.aload_n 0, 1) := by decide +kernel
theorem eX11_level_17 : decode cX11_level 17 = .ok (.getfield 137, 3) := by decide +kernel
theorem eX11_level_20 : decode cX11_level 20 = .ok (.iload_n 1, 1) := by decide +kernel
theorem eX11_level_21 : decode cX11_level 21 = .ok (.lconst 0, 1) := by decide +kernel
theorem eX11_level_22 : decode cX11_level 22 = .ok (.lastore, 1) := by decide +kernel
theorem eX11_level_23 : decode cX11_level 23 = .ok (.aload_n 0, 1) := by decide +kernel
theorem eX11_level_24 : decode cX11_level 24 = .ok (.getfield 143, 3) := by decide +kernel
theorem eX11_level_27 : decode cX11_level 27 = .ok (.iload_n 1, 1) := by decide +kernel
theorem eX11_level_28 : decode cX11_level 28 = .ok (.iconst (-1), 1) := by decide +kernel
theorem eX11_level_29 : decode cX11_level 29 = .ok (.iastore, 1) := by decide +kernel
theorem eX11_level_30 : decode cX11_level 30 = .ok (.aload_n 0, 1) := by decide +kernel
theorem eX11_level_31 : decode cX11_level 31 = .ok (.lload_n 2, 1) := by decide +kernel
theorem eX11_level_32 : decode cX11_level 32 = .ok (.invokevirtual 467, 3) := by decide +kernel
theorem eX11_level_35 : decode cX11_level 35 = .ok (.ifCond .eq 17, 3) := by decide +kernel
theorem eX11_level_38 : decode cX11_level 38 = .ok (.aload_n 0, 1) := by decide +kernel
theorem eX11_level_39 : decode cX11_level 39 = .ok (.getfield 137, 3) := by decide +kernel
theorem eX11_level_42 : decode cX11_level 42 = .ok (.iload_n 1, 1) := by decide +kernel
theorem eX11_level_43 : decode cX11_level 43 = .ok (.aload_n 0, 1) := by decide +kernel
theorem eX11_level_44 : decode cX11_level 44 = .ok (.lload_n 2, 1) := by decide +kernel
theorem eX11_level_45 : decode cX11_level 45 = .ok (.invokevirtual 475, 3) := by decide +kernel
theorem eX11_level_48 : decode cX11_level 48 = .ok (.lastore, 1) := by decide +kernel
theorem eX11_level_49 : decode cX11_level 49 = .ok (.goto 63, 3) := by decide +kernel
theorem eX11_level_52 : decode cX11_level 52 = .ok (.aload_n 0, 1) := by decide +kernel
theorem eX11_level_53 : decode cX11_level 53 = .ok (.getfield 140, 3) := by decide +kernel
theorem eX11_level_56 : decode cX11_level 56 = .ok (.iload_n 1, 1) := by decide +kernel
theorem eX11_level_57 : decode cX11_level 57 = .ok (.iaload, 1) := by decide +kernel
theorem eX11_level_58 : decode cX11_level 58 = .ok (.aload_n 0, 1) := by decide +kernel
theorem eX11_level_59 : decode cX11_level 59 = .ok (.getfield 499, 3) := by decide +kernel
theorem eX11_level_62 : decode cX11_level 62 = .ok (.if_icmp .lt 30, 3) := by decide +kernel
theorem eX11_level_65 : decode cX11_level 65 = .ok (.aload_n 0, 1) := by decide +kernel
theorem eX11_level_66 : decode cX11_level 66 = .ok (.getfield 140, 3) := by decide +kernel
theorem eX11_level_69 : decode cX11_level 69 = .ok (.iload_n 1, 1) := by decide +kernel
theorem eX11_level_70 : decode cX11_level 70 = .ok (.iaload, 1) := by decide +kernel
theorem eX11_level_71 : decode cX11_level 71 = .ok (.aload_n 0, 1) := by decide +kernel
theorem eX11_level_72 : decode cX11_level 72 = .ok (.getfield 499, 3) := by decide +kernel
theorem eX11_level_75 : decode cX11_level 75 = .ok (.if_icmp .ne 37, 3) := by decide +kernel
theorem eX11_level_78 : decode cX11_level 78 = .ok (.aload_n 0, 1) := by decide +kernel
theorem eX11_level_79 : decode cX11_level 79 = .ok (.getfield 131, 3) := by decide +kernel
theorem eX11_level_82 : decode cX11_level 82 = .ok (.iload_n 1, 1) := by decide +kernel
theorem eX11_level_83 : decode cX11_level 83 = .ok (.laload, 1) := by decide +kernel
theorem eX11_level_84 : decode cX11_level 84 = .ok (.aload_n 0, 1) := by decide +kernel
theorem eX11_level_85 : decode cX11_level 85 = .ok (.getfield 502, 3) := by decide +kernel
theorem eX11_level_88 : decode cX11_level 88 = .ok (.lcmp, 1) := by decide +kernel
theorem eX11_level_89 : decode cX11_level 89 = .ok (.ifCond .ge 23, 3) := by decide +kernel
theorem eX11_level_92 : decode cX11_level 92 = .ok (.aload_n 0, 1) := by decide +kernel
theorem eX11_level_93 : decode cX11_level 93 = .ok (.aload_n 0, 1) := by decide +kernel
theorem eX11_level_94 : decode cX11_level 94 = .ok (.getfield 140, 3) := by decide +kernel
theorem eX11_level_97 : decode cX11_level 97 = .ok (.iload_n 1, 1) := by decide +kernel
theorem eX11_level_98 : decode cX11_level 98 = .ok (.iaload, 1) := by decide +kernel
theorem eX11_level_99 : decode cX11_level 99 = .ok (.putfield 499, 3) := by decide +kernel
theorem eX11_level_102 : decode cX11_level 102 = .ok (.aload_n 0, 1) := by decide +kernel
theorem eX11_level_103 : decode cX11_level 103 = .ok (.aload_n 0, 1) := by decide +kernel
theorem eX11_level_104 : decode cX11_level 104 = .ok (.getfield 131, 3) := by decide +kernel
theorem eX11_level_107 : decode cX11_level 107 = .ok (.iload_n 1, 1) := by decide +kernel
theorem eX11_level_108 : decode cX11_level 108 = .ok (.laload, 1) := by decide +kernel
theorem eX11_level_109 : decode cX11_level 109 = .ok (.putfield 502, 3) := by decide +kernel
theorem eX11_level_112 : decode cX11_level 112 = .ok (.return_, 1) := by decide +kernel
def C_X11_level (s : ST) (p : Int) (Q : ST → Prop) : Prop := bx <| RA s → R32 p → q_met mX11_level (qs layM s) [.ref 139, .int (Int32.ofInt p)] (PV layM Q)
theorem C_X11_level.mono {s : ST} {p : Int} {Q Q' : ST → Prop} (h : C_X11_level s p Q) (hq : ∀ s, Q s → Q' s) : C_X11_level s p Q' := ⟨fun hA hrp => q_met.mono (h.1 hA hrp) (fun _ _ => PV.mono hq), trivial⟩
def K_X11_level_92 (s : ST) (a1 : Int) (Q : ST → Prop) : Prop := bx <| RA s → R32 a1 → q_K mX11_level (qs layM s) 0 0 92 [(0, .ref 139), (1, .int (Int32.ofInt a1))] [] (q_fin mX11_level (PV layM Q))
set_option maxRecDepth 20000 in
theorem s_X11_level_92 {s : ST} {a1 : Int} {Q : ST → Prop} (h : RA s → R32 a1 → (((0 : Int) ≤ a1 ∧ a1 < 42) ∧ Q (uj (ui s 139 61 (s.1 180 a1)) 139 60 (s.2 177 a1)))) : K_X11_level_92 s a1 Q := by
  refine ⟨?_, trivial⟩
  intro hA hra1
  have h := h hA hra1
  refine q_aload_n eX11_level_92 rfl ?_
  refine q_aload_n eX11_level_93 rfl ?_
  refine q_getR (c := 11) (n := 0) (k := 58) (a := 180) eX11_level_94 rfl (by decide) (by decide) fX11_140 rfl rfl ?_
  refine q_iload_n eX11_level_97 rfl ?_
  have f1 := h.1
  have h := h.2
  refine z_iald (n := 42) eX11_level_98 rfl (ofz hra1) f1 ?_
  refine q_topI (v := Int32.ofInt (s.1 180 a1)) rfl ?_
  refine z_putI (c := 11) (n := 0) (k := 61) (kz := 61) eX11_level_99 rfl (by decide) (by decide) fX11_499 rfl rfl rfl ?_
  refine q_aload_n eX11_level_102 rfl ?_
  refine q_aload_n eX11_level_103 rfl ?_
  refine q_getR (c := 11) (n := 0) (k := 55) (a := 177) eX11_level_104 rfl (by decide) (by decide) fX11_131 rfl rfl ?_
  refine q_iload_n eX11_level_107 rfl ?_
  refine z_lald (n := 42) eX11_level_108 rfl (ofz hra1) f1 ?_
  refine q_topL (v := s.2 177 a1) rfl ?_
  refine z_putJ (c := 11) (n := 0) (k := 60) (kz := 60) eX11_level_109 rfl (by decide) (by decide) fX11_502 rfl rfl rfl ?_
  exact q_ret eX11_level_112 rfl ⟨_, rfl, (ra_uj (ra_ui hA (hA _ _))), rfl, h⟩
set_option maxRecDepth 20000 in
theorem s_X11_level {s : ST} {p : Int} {Q : ST → Prop} (h : RA s → R32 p → (P_X11_allPlaces s ∧ (((0 : Int) ≤ p ∧ p < 42) ∧ (C_X11_clash (ui (uj s 179 p 0) 181 p (-1)) (((lshl 1 (s.1 142 (s.1 139 28))) - 1) &&& (s.2 177 p ^^^ (-1))) (fun s4 v4 => (v4 = 0 ∨ v4 = 1) → ((v4 = 0 → ((s4.1 180 p < s4.1 139 61 → K_X11_level_92 s4 p Q) ∧ (¬ s4.1 180 p < s4.1 139 61 → ((¬ s4.1 180 p = s4.1 139 61 → Q s4) ∧ (s4.1 180 p = s4.1 139 61 → ((¬ (s4.2 177 p) < (s4.2 139 60) → Q s4) ∧ ((s4.2 177 p) < (s4.2 139 60) → K_X11_level_92 s4 p Q))))))) ∧ (¬ v4 = 0 → (C_X11_coreOf s4 (((lshl 1 (s.1 142 (s.1 139 28))) - 1) &&& (s.2 177 p ^^^ (-1))) (fun s5 v5 => Q (uj s5 179 p v5)))))))))) : C_X11_level s p Q := by
  refine ⟨?_, trivial⟩
  intro hA hrp
  have h := h hA hrp
  refine q_enter (by decide) (Nat.le_of_ble_eq_true rfl) ?_
  refine q_aload_n eX11_level_0 rfl ?_
  have f2 := h.1
  have h := h.2
  refine q_V0 (ci := 11) (n := 0) eX11_level_1 DX11_allPlaces lX11_463 rfl (by decide) rfl rfl rfl rfl (p_X11_allPlaces f2 hA) ?_
  rintro _ _ ⟨rfl, rfl⟩
  refine q_aload_n eX11_level_4 rfl ?_
  refine q_getR (c := 11) (n := 0) (k := 55) (a := 177) eX11_level_5 rfl (by decide) (by decide) fX11_131 rfl rfl ?_
  refine q_iload_n eX11_level_8 rfl ?_
  have f3 := h.1
  have h := h.2
  refine z_lald (n := 42) eX11_level_9 rfl (ofz hrp) f3 ?_
  refine q_topL (v := s.2 177 p) rfl ?_
  refine q_ldc2 (v := (-1)) eX11_level_10 nX11_473 ?_
  refine q_lxor eX11_level_13 ?_
  refine q_land eX11_level_14 ?_
  refine q_lstore_n eX11_level_15 (Nat.le_of_ble_eq_true rfl) ?_
  refine q_aload_n eX11_level_16 rfl ?_
  refine q_getR (c := 11) (n := 0) (k := 57) (a := 179) eX11_level_17 rfl (by decide) (by decide) fX11_137 rfl rfl ?_
  refine q_iload_n eX11_level_20 rfl ?_
  refine q_lc (v := 0) eX11_level_21 rfl ?_
  refine z_last (n := 42) eX11_level_22 rfl (ofz hrp) f3  ?_
  refine q_aload_n eX11_level_23 rfl ?_
  refine q_getR (c := 11) (n := 0) (k := 59) (a := 181) eX11_level_24 rfl (by decide) (by decide) fX11_143 rfl rfl ?_
  refine q_iload_n eX11_level_27 rfl ?_
  refine q_ic (v := Int32.ofInt (-1)) eX11_level_28 rfl ?_
  refine z_iast (n := 42) eX11_level_29 rfl (ofz hrp) f3  ?_
  refine q_aload_n eX11_level_30 rfl ?_
  refine q_lload_n eX11_level_31 rfl ?_
  refine q_V1 (ci := 11) (n := 0) eX11_level_32 DX11_clash lX11_467 rfl (by decide) rfl rfl rfl rfl (h.1 (ra_ui (ra_uj hA) (r32l rfl))) ?_
  rintro _ _ ⟨s4, v4, rfl, hA4, b4, rfl, h⟩
  have h := h b4
  refine q_iz_eq (tgt := 52) (a := v4) eX11_level_35 (by decide) (ofz (r01 b4)) (fun c35 => ?_) (fun c35 => ?_)
  · have h := h.1 c35
    refine q_aload_n eX11_level_52 rfl ?_
    refine q_getR (c := 11) (n := 0) (k := 58) (a := 180) eX11_level_53 rfl (by decide) (by decide) fX11_140 rfl rfl ?_
    refine q_iload_n eX11_level_56 rfl ?_
    refine z_iald (n := 42) eX11_level_57 rfl (ofz hrp) f3 ?_
    refine q_topI (v := Int32.ofInt (s4.1 180 p)) rfl ?_
    refine q_aload_n eX11_level_58 rfl ?_
    refine q_getf (c := 11) (n := 0) (k := 61) (v := .int (Int32.ofInt (s4.1 139 61))) eX11_level_59 rfl (by decide) (by decide) fX11_499 rfl ?_
    refine q_cz_lt (tgt := 92) (a := s4.1 180 p) (b := s4.1 139 61) eX11_level_62 (by decide) (ofz (hA4 _ _)) (ofz (hA4 _ _)) (fun c62 => ?_) (fun c62 => ?_)
    · have h := h.1 c62
      exact q_subL rfl (h.1 hA4 hrp)
    · have h := h.2 c62
      refine q_aload_n eX11_level_65 rfl ?_
      refine q_getR (c := 11) (n := 0) (k := 58) (a := 180) eX11_level_66 rfl (by decide) (by decide) fX11_140 rfl rfl ?_
      refine q_iload_n eX11_level_69 rfl ?_
      refine z_iald (n := 42) eX11_level_70 rfl (ofz hrp) f3 ?_
      refine q_topI (v := Int32.ofInt (s4.1 180 p)) rfl ?_
      refine q_aload_n eX11_level_71 rfl ?_
      refine q_getf (c := 11) (n := 0) (k := 61) (v := .int (Int32.ofInt (s4.1 139 61))) eX11_level_72 rfl (by decide) (by decide) fX11_499 rfl ?_
      refine q_cz_ne (tgt := 112) (a := s4.1 180 p) (b := s4.1 139 61) eX11_level_75 (by decide) (ofz (hA4 _ _)) (ofz (hA4 _ _)) (fun c75 => ?_) (fun c75 => ?_)
      · have h := h.1 c75
        exact q_ret eX11_level_112 rfl ⟨_, rfl, hA4, rfl, h⟩
      · have h := h.2 c75
        refine q_aload_n eX11_level_78 rfl ?_
        refine q_getR (c := 11) (n := 0) (k := 55) (a := 177) eX11_level_79 rfl (by decide) (by decide) fX11_131 rfl rfl ?_
        refine q_iload_n eX11_level_82 rfl ?_
        refine z_lald (n := 42) eX11_level_83 rfl (ofz hrp) f3 ?_
        refine q_topL (v := s4.2 177 p) rfl ?_
        refine q_aload_n eX11_level_84 rfl ?_
        refine q_getf (c := 11) (n := 0) (k := 60) (v := .long (s4.2 139 60)) eX11_level_85 rfl (by decide) (by decide) fX11_502 rfl ?_
        refine q_lcmp eX11_level_88 ?_
        refine z_lc_ge (tgt := 112) eX11_level_89 (by decide) (fun c89 => ?_) (fun c89 => ?_)
        · have h := h.1 c89
          exact q_ret eX11_level_112 rfl ⟨_, rfl, hA4, rfl, h⟩
        · have h := h.2 c89
          exact q_subL rfl (h.1 hA4 hrp)
  · have h := h.2 c35
    refine q_aload_n eX11_level_38 rfl ?_
    refine q_getR (c := 11) (n := 0) (k := 57) (a := 179) eX11_level_39 rfl (by decide) (by decide) fX11_137 rfl rfl ?_
    refine q_iload_n eX11_level_42 rfl ?_
    refine q_aload_n eX11_level_43 rfl ?_
    refine q_lload_n eX11_level_44 rfl ?_
    refine q_V1 (ci := 11) (n := 0) eX11_level_45 DX11_coreOf lX11_475 rfl (by decide) rfl rfl rfl rfl (h.1 hA4) ?_
    rintro _ _ ⟨s5, v5, rfl, hA5, rfl, h⟩
    refine z_last (n := 42) eX11_level_48 rfl (ofz hrp) f3  ?_
    refine q_goto (tgt := 112) eX11_level_49 (by decide) ?_
    exact q_ret eX11_level_112 rfl ⟨_, rfl, (ra_uj hA5), rfl, h⟩
theorem eX11_findCheapest_0 : decode cX11_findCheapest 0 = .ok (.aload_n 0, 1) := by decide +kernel
theorem eX11_findCheapest_1 : decode cX11_findCheapest 1 = .ok (.getfield 492, 3) := by decide +kernel
theorem eX11_findCheapest_4 : decode cX11_findCheapest 4 = .ok (.ifCond .eq 4, 3) := by decide +kernel
theorem eX11_findCheapest_7 : decode cX11_findCheapest 7 = .ok (.return_, 1) := by decide +kernel
theorem eX11_findCheapest_8 : decode cX11_findCheapest 8 = .ok (.aload_n 0, 1) := by decide +kernel
theorem eX11_findCheapest_9 : decode cX11_findCheapest 9 = .ok (.iconst 1, 1) := by decide +kernel
theorem eX11_findCheapest_10 : decode cX11_findCheapest 10 = .ok (.putfield 492, 3) := by decide +kernel
theorem eX11_findCheapest_13 : decode cX11_findCheapest 13 = .ok (.aload_n 0, 1) := by decide +kernel
theorem eX11_findCheapest_14 : decode cX11_findCheapest 14 = .ok (.invokevirtual 460, 3) := by decide +kernel
theorem eX11_findCheapest_17 : decode cX11_findCheapest 17 = .ok (.aload_n 0, 1) := by decide +kernel
theorem eX11_findCheapest_18 : decode cX11_findCheapest 18 = .ok (.aload_n 0, 1) := by decide +kernel
theorem eX11_findCheapest_19 : decode cX11_findCheapest 19 = .ok (.invokevirtual 505, 3) := by decide +kernel
theorem eX11_findCheapest_22 : decode cX11_findCheapest 22 = .ok (.iconst 1, 1) := by decide +kernel
theorem eX11_findCheapest_23 : decode cX11_findCheapest 23 = .ok (.iadd, 1) := by decide +kernel
theorem eX11_findCheapest_24 : decode cX11_findCheapest 24 = .ok (.putfield 499, 3) := by decide +kernel
theorem eX11_findCheapest_27 : decode cX11_findCheapest 27 = .ok (.aload_n 0, 1) := by decide +kernel
theorem eX11_findCheapest_28 : decode cX11_findCheapest 28 = .ok (.lconst 0, 1) := by decide +kernel
theorem eX11_findCheapest_29 : decode cX11_findCheapest 29 = .ok (.putfield 502, 3) := by decide +kernel
theorem eX11_findCheapest_32 : decode cX11_findCheapest 32 = .ok (.aload_n 0, 1) := by decide +kernel
theorem eX11_findCheapest_33 : decode cX11_findCheapest 33 = .ok (.getfield 131, 3) := by decide +kernel
theorem eX11_findCheapest_36 : decode cX11_findCheapest 36 = .ok (.iconst 0, 1) := by decide +kernel
theorem eX11_findCheapest_37 : decode cX11_findCheapest 37 = .ok (.lconst 0, 1) := by decide +kernel
theorem eX11_findCheapest_38 : decode cX11_findCheapest 38 = .ok (.lastore, 1) := by decide +kernel
theorem eX11_findCheapest_39 : decode cX11_findCheapest 39 = .ok (.aload_n 0, 1) := by decide +kernel
theorem eX11_findCheapest_40 : decode cX11_findCheapest 40 = .ok (.getfield 134, 3) := by decide +kernel
theorem eX11_findCheapest_43 : decode cX11_findCheapest 43 = .ok (.iconst 0, 1) := by decide +kernel
theorem eX11_findCheapest_44 : decode cX11_findCheapest 44 = .ok (.lconst 0, 1) := by decide +kernel
theorem eX11_findCheapest_45 : decode cX11_findCheapest 45 = .ok (.lastore, 1) := by decide +kernel
theorem eX11_findCheapest_46 : decode cX11_findCheapest 46 = .ok (.aload_n 0, 1) := by decide +kernel
theorem eX11_findCheapest_47 : decode cX11_findCheapest 47 = .ok (.getfield 140, 3) := by decide +kernel
theorem eX11_findCheapest_50 : decode cX11_findCheapest 50 = .ok (.iconst 0, 1) := by decide +kernel
theorem eX11_findCheapest_51 : decode cX11_findCheapest 51 = .ok (.iconst 0, 1) := by decide +kernel
theorem eX11_findCheapest_52 : decode cX11_findCheapest 52 = .ok (.iastore, 1) := by decide +kernel
theorem eX11_findCheapest_53 : decode cX11_findCheapest 53 = .ok (.aload_n 0, 1) := by decide +kernel
theorem eX11_findCheapest_54 : decode cX11_findCheapest 54 = .ok (.iconst 0, 1) := by decide +kernel
theorem eX11_findCheapest_55 : decode cX11_findCheapest 55 = .ok (.invokevirtual 508, 3) := by decide +kernel
theorem eX11_findCheapest_58 : decode cX11_findCheapest 58 = .ok (.iconst 0, 1) := by decide +kernel
theorem eX11_findCheapest_59 : decode cX11_findCheapest 59 = .ok (.istore_n 1, 1) := by decide +kernel
theorem eX11_findCheapest_60 : decode cX11_findCheapest 60 = .ok (.iload_n 1, 1) := by decide +kernel
theorem eX11_findCheapest_61 : decode cX11_findCheapest 61 = .ok (.ifCond .lt 184, 3) := by decide +kernel
theorem eX11_findCheapest_64 : decode cX11_findCheapest 64 = .ok (.aload_n 0, 1) := by decide +kernel
theorem eX11_findCheapest_65 : decode cX11_findCheapest 65 = .ok (.getfield 143, 3) := by decide +kernel
theorem eX11_findCheapest_68 : decode cX11_findCheapest 68 = .ok (.iload_n 1, 1) := by decide +kernel
theorem eX11_findCheapest_69 : decode cX11_findCheapest 69 = .ok (.iaload, 1) := by decide +kernel
theorem eX11_findCheapest_70 : decode cX11_findCheapest 70 = .ok (.iconst 1, 1) := by decide +kernel
theorem eX11_findCheapest_71 : decode cX11_findCheapest 71 = .ok (.iadd, 1) := by decide +kernel
theorem eX11_findCheapest_72 : decode cX11_findCheapest 72 = .ok (.istore_n 2, 1) := by decide +kernel
theorem eX11_findCheapest_73 : decode cX11_findCheapest 73 = .ok (.iload_n 2, 1) := by decide +kernel
theorem eX11_findCheapest_74 : decode cX11_findCheapest 74 = .ok (.aload_n 0, 1) := by decide +kernel
theorem eX11_findCheapest_75 : decode cX11_findCheapest 75 = .ok (.getfield 20, 3) := by decide +kernel
theorem eX11_findCheapest_78 : decode cX11_findCheapest 78 = .ok (.aload_n 0, 1) := by decide +kernel
theorem eX11_findCheapest_79 : decode cX11_findCheapest 79 = .ok (.getfield 321, 3) := by decide +kernel
theorem eX11_findCheapest_82 : decode cX11_findCheapest 82 = .ok (.iaload, 1) := by decide +kernel
theorem eX11_findCheapest_83 : decode cX11_findCheapest 83 = .ok (.if_icmp .ge 59, 3) := by decide +kernel
theorem eX11_findCheapest_86 : decode cX11_findCheapest 86 = .ok (.aload_n 0, 1) := by decide +kernel
theorem eX11_findCheapest_87 : decode cX11_findCheapest 87 = .ok (.getfield 137, 3) := by decide +kernel
theorem eX11_findCheapest_90 : decode cX11_findCheapest 90 = .ok (.iload_n 1, 1) := by decide +kernel
theorem eX11_findCheapest_91 : decode cX11_findCheapest 91 = .ok (.laload, 1) := by decide +kernel
theorem eX11_findCheapest_92 : decode cX11_findCheapest 92 = .ok (.iload_n 2, 1) := by decide +kernel
theorem eX11_findCheapest_93 : decode cX11_findCheapest 93 = .ok (.lshr, 1) := by decide +kernel
theorem eX11_findCheapest_94 : decode cX11_findCheapest 94 = .ok (.lconst 1, 1) := by decide +kernel
theorem eX11_findCheapest_95 : decode cX11_findCheapest 95 = .ok (.land, 1) := by decide +kernel
theorem eX11_findCheapest_96 : decode cX11_findCheapest 96 = .ok (.lconst 0, 1) := by decide +kernel
theorem eX11_findCheapest_97 : decode cX11_findCheapest 97 = .ok (.lcmp, 1) := by decide +kernel
theorem eX11_findCheapest_98 : decode cX11_findCheapest 98 = .ok (.ifCond .eq 38, 3) := by decide +kernel
theorem eX11_findCheapest_101 : decode cX11_findCheapest 101 = .ok (.aload_n 0, 1) := by decide +kernel
theorem eX11_findCheapest_102 : decode cX11_findCheapest 102 = .ok (.getfield 134, 3) := by decide +kernel
theorem eX11_findCheapest_105 : decode cX11_findCheapest 105 = .ok (.iload_n 1, 1) := by decide +kernel
theorem eX11_findCheapest_106 : decode cX11_findCheapest 106 = .ok (.laload, 1) := by decide +kernel
theorem eX11_findCheapest_107 : decode cX11_findCheapest 107 = .ok (.iload_n 2, 1) := by decide +kernel
theorem eX11_findCheapest_108 : decode cX11_findCheapest 108 = .ok (.lshr, 1) := by decide +kernel
theorem eX11_findCheapest_109 : decode cX11_findCheapest 109 = .ok (.lconst 1, 1) := by decide +kernel
theorem eX11_findCheapest_110 : decode cX11_findCheapest 110 = .ok (.land, 1) := by decide +kernel
theorem eX11_findCheapest_111 : decode cX11_findCheapest 111 = .ok (.lconst 1, 1) := by decide +kernel
theorem eX11_findCheapest_112 : decode cX11_findCheapest 112 = .ok (.lcmp, 1) := by decide +kernel
theorem eX11_findCheapest_113 : decode cX11_findCheapest 113 = .ok (.ifCond .eq 23, 3) := by decide +kernel
theorem eX11_findCheapest_116 : decode cX11_findCheapest 116 = .ok (.aload_n 0, 1) := by decide +kernel
theorem eX11_findCheapest_117 : decode cX11_findCheapest 117 = .ok (.getfield 140, 3) := by decide +kernel
theorem eX11_findCheapest_120 : decode cX11_findCheapest 120 = .ok (.iload_n 1, 1) := by decide +kernel
theorem eX11_findCheapest_121 : decode cX11_findCheapest 121 = .ok (.iaload, 1) := by decide +kernel
theorem eX11_findCheapest_122 : decode cX11_findCheapest 122 = .ok (.aload_n 0, 1) := by decide +kernel
theorem eX11_findCheapest_123 : decode cX11_findCheapest 123 = .ok (.getfield 128, 3) := by decide +kernel
theorem eX11_findCheapest_126 : decode cX11_findCheapest 126 = .ok (.iload_n 2, 1) := by decide +kernel
theorem eX11_findCheapest_127 : decode cX11_findCheapest 127 = .ok (.iaload, 1) := by decide +kernel
theorem eX11_findCheapest_128 : decode cX11_findCheapest 128 = .ok (.iadd, 1) := by decide +kernel
theorem eX11_findCheapest_129 : decode cX11_findCheapest 129 = .ok (.aload_n 0, 1) := by decide +kernel
theorem eX11_findCheapest_130 : decode cX11_findCheapest 130 = .ok (.getfield 499, 3) := by decide +kernel
theorem eX11_findCheapest_133 : decode cX11_findCheapest 133 = .ok (.if_icmp .le 9, 3) := by decide +kernel
theorem eX11_findCheapest_136 : decode cX11_findCheapest 136 = .ok (.iinc 2 1, 3) := by decide +kernel
theorem eX11_findCheapest_139 : decode cX11_findCheapest 139 = .ok (.goto (-66), 3) := by decide +kernel
theorem eX11_findCheapest_142 : decode cX11_findCheapest 142 = .ok (.aload_n 0, 1) := by decide +kernel
theorem eX11_findCheapest_143 : decode cX11_findCheapest 143 = .ok (.getfield 143, 3) := by decide +kernel
theorem eX11_findCheapest_146 : decode cX11_findCheapest 146 = .ok (.iload_n 1, 1) := by decide +kernel
theorem eX11_findCheapest_147 : decode cX11_findCheapest 147 = .ok (.iload_n 2, 1) := by decide +kernel
theorem eX11_findCheapest_148 : decode cX11_findCheapest 148 = .ok (.iastore, 1) := by decide +kernel
theorem eX11_findCheapest_149 : decode cX11_findCheapest 149 = .ok (.iload_n 2, 1) := by decide +kernel
theorem eX11_findCheapest_150 : decode cX11_findCheapest 150 = .ok (.aload_n 0, 1) := by decide +kernel
theorem eX11_findCheapest_151 : decode cX11_findCheapest 151 = .ok (.getfield 20, 3) := by decide +kernel
theorem eX11_findCheapest_154 : decode cX11_findCheapest 154 = .ok (.aload_n 0, 1) := by decide +kernel
theorem eX11_findCheapest_155 : decode cX11_findCheapest 155 = .ok (.getfield 321, 3) := by decide +kernel
theorem eX11_findCheapest_158 : decode cX11_findCheapest 158 = .ok (.iaload, 1) := by decide +kernel
theorem eX11_findCheapest_159 : decode cX11_findCheapest 159 = .ok (.if_icmp .lt 9, 3) := by decide +kernel
theorem eX11_findCheapest_162 : decode cX11_findCheapest 162 = .ok (.iinc 1 (-1), 3) := by decide +kernel
theorem eX11_findCheapest_165 : decode cX11_findCheapest 165 = .ok (.goto (-105), 3) := by decide +kernel
theorem eX11_findCheapest_168 : decode cX11_findCheapest 168 = .ok (.aload_n 0, 1) := by decide +kernel
theorem eX11_findCheapest_169 : decode cX11_findCheapest 169 = .ok (.getfield 131, 3) := by decide +kernel
theorem eX11_findCheapest_172 : decode cX11_findCheapest 172 = .ok (.iload_n 1, 1) := by decide +kernel
theorem eX11_findCheapest_173 : decode cX11_findCheapest 173 = .ok (.iconst 1, 1) := by decide +kernel
theorem eX11_findCheapest_174 : decode cX11_findCheapest 174 = .ok (.iadd, 1) := by decide +kernel
theorem eX11_findCheapest_175 : decode cX11_findCheapest 175 = .ok (.aload_n 0, 1) := by decide +kernel
theorem eX11_findCheapest_176 : decode cX11_findCheapest 176 = .ok (.getfield 131, 3) := by decide +kernel
theorem eX11_findCheapest_179 : decode cX11_findCheapest 179 = .ok (.iload_n 1, 1) := by decide +kernel
theorem eX11_findCheapest_180 : decode cX11_findCheapest 180 = .ok (.laload, 1) := by decide +kernel
theorem eX11_findCheapest_181 : decode cX11_findCheapest 181 = .ok (.lconst 1, 1) := by decide +kernel
theorem eX11_findCheapest_182 : decode cX11_findCheapest 182 = .ok (.iload_n 2, 1) := by decide +kernel
theorem eX11_findCheapest_183 : decode cX11_findCheapest 183 = .ok (.lshl, 1) := by decide +kernel
theorem eX11_findCheapest_184 : decode cX11_findCheapest 184 = .ok (.lor, 1) := by decide +kernel
theorem eX11_findCheapest_185 : decode cX11_findCheapest 185 = .ok (.lastore, 1) := by decide +kernel
theorem eX11_findCheapest_186 : decode cX11_findCheapest 186 = .ok (.aload_n 0, 1) := by decide +kernel
theorem eX11_findCheapest_187 : decode cX11_findCheapest 187 = .ok (.getfield 134, 3) := by decide +kernel
theorem eX11_findCheapest_190 : decode cX11_findCheapest 190 = .ok (.iload_n 1, 1) := by decide +kernel
theorem eX11_findCheapest_191 : decode cX11_findCheapest 191 = .ok (.iconst 1, 1) := by decide +kernel
theorem eX11_findCheapest_192 : decode cX11_findCheapest 192 = .ok (.iadd, 1) := by decide +kernel
theorem eX11_findCheapest_193 : decode cX11_findCheapest 193 = .ok (.aload_n 0, 1) := by decide +kernel
theorem eX11_findCheapest_194 : decode cX11_findCheapest 194 = .ok (.getfield 134, 3) := by decide +kernel
theorem eX11_findCheapest_197 : decode cX11_findCheapest 197 = .ok (.iload_n 1, 1) := by decide +kernel
theorem eX11_findCheapest_198 : decode cX11_findCheapest 198 = .ok (.laload, 1) := by decide +kernel
theorem eX11_findCheapest_199 : decode cX11_findCheapest 199 = .ok (.aload_n 0, 1) := by decide +kernel
theorem eX11_findCheapest_200 : decode cX11_findCheapest 200 = .ok (.getfield 137, 3) := by decide +kernel
theorem eX11_findCheapest_203 : decode cX11_findCheapest 203 = .ok (.iload_n 1, 1) := by decide +kernel
theorem eX11_findCheapest_204 : decode cX11_findCheapest 204 = .ok (.laload, 1) := by decide +kernel
theorem eX11_findCheapest_205 : decode cX11_findCheapest 205 = .ok (.lconst 1, 1) := by decide +kernel
theorem eX11_findCheapest_206 : decode cX11_findCheapest 206 = .ok (.iload_n 2, 1) := by decide +kernel
theorem eX11_findCheapest_207 : decode cX11_findCheapest 207 = .ok (.lshl, 1) := by decide +kernel
theorem eX11_findCheapest_208 : decode cX11_findCheapest 208 = .ok (.lconst 1, 1) := by decide +kernel
theorem eX11_findCheapest_209 : decode cX11_findCheapest 209 = .ok (.lsub, 1) := by decide +kernel
theorem eX11_findCheapest_210 : decode cX11_findCheapest 210 = .ok (.land, 1) := by decide +kernel
theorem eX11_findCheapest_211 : decode cX11_findCheapest 211 = .ok (.lor, 1) := by decide +kernel
theorem eX11_findCheapest_212 : decode cX11_findCheapest 212 = .ok (.lastore, 1) := by decide +kernel
theorem eX11_findCheapest_213 : decode cX11_findCheapest 213 = .ok (.aload_n 0, 1) := by decide +kernel
theorem eX11_findCheapest_214 : decode cX11_findCheapest 214 = .ok (.getfield 140, 3) := by decide +kernel
theorem eX11_findCheapest_217 : decode cX11_findCheapest 217 = .ok (.iload_n 1, 1) := by decide +kernel
theorem eX11_findCheapest_218 : decode cX11_findCheapest 218 = .ok (.iconst 1, 1) := by decide +kernel
theorem eX11_findCheapest_219 : decode cX11_findCheapest 219 = .ok (.iadd, 1) := by decide +kernel
theorem eX11_findCheapest_220 : decode cX11_findCheapest 220 = .ok (.aload_n 0, 1) := by decide +kernel
theorem eX11_findCheapest_221 : decode cX11_findCheapest 221 = .ok (.getfield 140, 3) := by decide +kernel
theorem eX11_findCheapest_224 : decode cX11_findCheapest 224 = .ok (.iload_n 1, 1) := by decide +kernel
theorem eX11_findCheapest_225 : decode cX11_findCheapest 225 = .ok (.iaload, 1) := by decide +kernel
theorem eX11_findCheapest_226 : decode cX11_findCheapest 226 = .ok (.aload_n 0, 1) := by decide +kernel
theorem eX11_findCheapest_227 : decode cX11_findCheapest 227 = .ok (.getfield 128, 3) := by decide +kernel
theorem eX11_findCheapest_230 : decode cX11_findCheapest 230 = .ok (.iload_n 2, 1) := by decide +kernel
theorem eX11_findCheapest_231 : decode cX11_findCheapest 231 = .ok (.iaload, 1) := by decide +kernel
theorem eX11_findCheapest_232 : decode cX11_findCheapest 232 = .ok (.iadd, 1) := by decide +kernel
theorem eX11_findCheapest_233 : decode cX11_findCheapest 233 = .ok (.iastore, 1) := by decide +kernel
theorem eX11_findCheapest_234 : decode cX11_findCheapest 234 = .ok (.iinc 1 1, 3) := by decide +kernel
theorem eX11_findCheapest_237 : decode cX11_findCheapest 237 = .ok (.aload_n 0, 1) := by decide +kernel
theorem eX11_findCheapest_238 : decode cX11_findCheapest 238 = .ok (.iload_n 1, 1) := by decide +kernel
theorem eX11_findCheapest_239 : decode cX11_findCheapest 239 = .ok (.invokevirtual 508, 3) := by decide +kernel
theorem eX11_findCheapest_242 : decode cX11_findCheapest 242 = .ok (.goto (-182), 3) := by decide +kernel
theorem eX11_findCheapest_245 : decode cX11_findCheapest 245 = .ok (.return_, 1) := by decide +kernel
def C_X11_findCheapest (s : ST) (Q : ST → Prop) : Prop := bx <| RA s → q_met mX11_findCheapest (qs layM s) [.ref 139] (PV layM Q)
theorem C_X11_findCheapest.mono {s : ST} {Q Q' : ST → Prop} (h : C_X11_findCheapest s Q) (hq : ∀ s, Q s → Q' s) : C_X11_findCheapest s Q' := ⟨fun hA => q_met.mono (h.1 hA) (fun _ _ => PV.mono hq), trivial⟩
def K_X11_findCheapest_142 (s : ST) (a1 : Int) (a2 : Int) (Q : ST → Prop) : Prop := bx <| RA s → R32 a1 → R32 a2 → q_K mX11_findCheapest (qs layM s) 0 0 142 [(0, .ref 139), (1, .int (Int32.ofInt a1)), (2, .int (Int32.ofInt a2))] [] (q_fin mX11_findCheapest (PV layM Q))
def K_X11_findCheapest_73 (s : ST) (a1 : Int) (a2 : Int) (Q : ST → Prop) : Prop := bx <| RA s → R32 a1 → R32 a2 → q_K mX11_findCheapest (qs layM s) 0 0 73 [(0, .ref 139), (1, .int (Int32.ofInt a1)), (2, .int (Int32.ofInt a2))] [] (q_fin mX11_findCheapest (PV layM Q))
def K_X11_findCheapest_60 (s : ST) (a1 : Int) (Q : ST → Prop) : Prop := bx <| RA s → R32 a1 → q_K mX11_findCheapest (qs layM s) 0 0 60 [(0, .ref 139), (1, .int (Int32.ofInt a1))] [] (q_fin mX11_findCheapest (PV layM Q))
set_option maxRecDepth 20000 in
theorem s_X11_findCheapest_142 {s : ST} {a1 : Int} {a2 : Int} {Q : ST → Prop} (h : RA s → R32 a1 → R32 a2 → (((0 : Int) ≤ a1 ∧ a1 < 42) ∧ (((0 : Int) ≤ s.1 139 28 ∧ s.1 139 28 < 6) ∧ ((a2 < s.1 142 (s.1 139 28) → (R32 (a1 + 1) ∧ (((0 : Int) ≤ (a1 + 1) ∧ (a1 + 1) < 42) ∧ (((0 : Int) ≤ a2 ∧ a2 < 40) ∧ (R32 (s.1 180 a1 + s.1 176 a2) ∧ (C_X11_level (ui (uj (uj (ui s 181 a1 a2) 177 (a1 + 1) (s.2 177 a1 ||| (lshl 1 a2))) 178 (a1 + 1) (s.2 178 a1 ||| (s.2 179 a1 &&& ((lshl 1 a2) - 1)))) 180 (a1 + 1) (s.1 180 a1 + s.1 176 a2)) (a1 + 1) (fun s7 => K_X11_findCheapest_60 s7 (a1 + 1) Q))))))) ∧ (¬ a2 < s.1 142 (s.1 139 28) → (R32 (a1 - 1) ∧ K_X11_findCheapest_60 (ui s 181 a1 a2) (a1 - 1) Q)))))) : K_X11_findCheapest_142 s a1 a2 Q := by
  refine ⟨?_, trivial⟩
  intro hA hra1 hra2
  have h := h hA hra1 hra2
  refine q_aload_n eX11_findCheapest_142 rfl ?_
  refine q_getR (c := 11) (n := 0) (k := 59) (a := 181) eX11_findCheapest_143 rfl (by decide) (by decide) fX11_143 rfl rfl ?_
  refine q_iload_n eX11_findCheapest_146 rfl ?_
  refine q_iload_n eX11_findCheapest_147 rfl ?_
  have f1 := h.1
  have h := h.2
  refine z_iast (n := 42) eX11_findCheapest_148 rfl (ofz hra1) f1  ?_
  refine q_iload_n eX11_findCheapest_149 rfl ?_
  refine q_aload_n eX11_findCheapest_150 rfl ?_
  refine q_getR (c := 11) (n := 0) (k := 11) (a := 142) eX11_findCheapest_151 rfl (by decide) (by decide) fX11_20 rfl rfl ?_
  refine q_aload_n eX11_findCheapest_154 rfl ?_
  refine q_getf (c := 11) (n := 0) (k := 28) (v := .int (Int32.ofInt (s.1 139 28))) eX11_findCheapest_155 rfl (by decide) (by decide) fX11_321 rfl ?_
  have f2 := h.1
  have h := h.2
  refine z_iald (n := 6) eX11_findCheapest_158 rfl (ofz (hA _ _)) f2 ?_
  refine q_topI (v := Int32.ofInt (s.1 142 (s.1 139 28))) rfl ?_
  refine q_cz_lt (tgt := 168) (a := a2) (b := s.1 142 (s.1 139 28)) eX11_findCheapest_159 (by decide) (ofz hra2) (ofz (hA _ _)) (fun c159 => ?_) (fun c159 => ?_)
  · have h := h.1 c159
    refine q_aload_n eX11_findCheapest_168 rfl ?_
    refine q_getR (c := 11) (n := 0) (k := 55) (a := 177) eX11_findCheapest_169 rfl (by decide) (by decide) fX11_131 rfl rfl ?_
    refine q_iload_n eX11_findCheapest_172 rfl ?_
    refine q_ic (v := Int32.ofInt 1) eX11_findCheapest_173 rfl ?_
    refine z_iadd eX11_findCheapest_174 ?_
    have r3 := h.1
    have h := h.2
    refine q_aload_n eX11_findCheapest_175 rfl ?_
    refine q_getR (c := 11) (n := 0) (k := 55) (a := 177) eX11_findCheapest_176 rfl (by decide) (by decide) fX11_131 rfl rfl ?_
    refine q_iload_n eX11_findCheapest_179 rfl ?_
    refine z_lald (n := 42) eX11_findCheapest_180 rfl (ofz hra1) f1 ?_
    refine q_topL (v := s.2 177 a1) rfl ?_
    refine q_lc (v := 1) eX11_findCheapest_181 rfl ?_
    refine q_iload_n eX11_findCheapest_182 rfl ?_
    refine z_lshl eX11_findCheapest_183 ?_
    refine q_lor eX11_findCheapest_184 ?_
    have f4 := h.1
    have h := h.2
    refine z_last (n := 42) eX11_findCheapest_185 rfl (ofz r3) f4  ?_
    refine q_aload_n eX11_findCheapest_186 rfl ?_
    refine q_getR (c := 11) (n := 0) (k := 56) (a := 178) eX11_findCheapest_187 rfl (by decide) (by decide) fX11_134 rfl rfl ?_
    refine q_iload_n eX11_findCheapest_190 rfl ?_
    refine q_ic (v := Int32.ofInt 1) eX11_findCheapest_191 rfl ?_
    refine z_iadd eX11_findCheapest_192 ?_
    refine q_aload_n eX11_findCheapest_193 rfl ?_
    refine q_getR (c := 11) (n := 0) (k := 56) (a := 178) eX11_findCheapest_194 rfl (by decide) (by decide) fX11_134 rfl rfl ?_
    refine q_iload_n eX11_findCheapest_197 rfl ?_
    refine z_lald (n := 42) eX11_findCheapest_198 rfl (ofz hra1) f1 ?_
    refine q_topL (v := s.2 178 a1) rfl ?_
    refine q_aload_n eX11_findCheapest_199 rfl ?_
    refine q_getR (c := 11) (n := 0) (k := 57) (a := 179) eX11_findCheapest_200 rfl (by decide) (by decide) fX11_137 rfl rfl ?_
    refine q_iload_n eX11_findCheapest_203 rfl ?_
    refine z_lald (n := 42) eX11_findCheapest_204 rfl (ofz hra1) f1 ?_
    refine q_topL (v := s.2 179 a1) rfl ?_
    refine q_lc (v := 1) eX11_findCheapest_205 rfl ?_
    refine q_iload_n eX11_findCheapest_206 rfl ?_
    refine z_lshl eX11_findCheapest_207 ?_
    refine q_lc (v := 1) eX11_findCheapest_208 rfl ?_
    refine q_lsub eX11_findCheapest_209 ?_
    refine q_land eX11_findCheapest_210 ?_
    refine q_lor eX11_findCheapest_211 ?_
    refine z_last (n := 42) eX11_findCheapest_212 rfl (ofz r3) f4  ?_
    refine q_aload_n eX11_findCheapest_213 rfl ?_
    refine q_getR (c := 11) (n := 0) (k := 58) (a := 180) eX11_findCheapest_214 rfl (by decide) (by decide) fX11_140 rfl rfl ?_
    refine q_iload_n eX11_findCheapest_217 rfl ?_
    refine q_ic (v := Int32.ofInt 1) eX11_findCheapest_218 rfl ?_
    refine z_iadd eX11_findCheapest_219 ?_
    refine q_aload_n eX11_findCheapest_220 rfl ?_
    refine q_getR (c := 11) (n := 0) (k := 58) (a := 180) eX11_findCheapest_221 rfl (by decide) (by decide) fX11_140 rfl rfl ?_
    refine q_iload_n eX11_findCheapest_224 rfl ?_
    refine z_iald (n := 42) eX11_findCheapest_225 rfl (ofz hra1) f1 ?_
    refine q_topI (v := Int32.ofInt (s.1 180 a1)) rfl ?_
    refine q_aload_n eX11_findCheapest_226 rfl ?_
    refine q_getR (c := 11) (n := 0) (k := 54) (a := 176) eX11_findCheapest_227 rfl (by decide) (by decide) fX11_128 rfl rfl ?_
    refine q_iload_n eX11_findCheapest_230 rfl ?_
    have f5 := h.1
    have h := h.2
    refine z_iald (n := 40) eX11_findCheapest_231 rfl (ofz hra2) f5 ?_
    refine q_topI (v := Int32.ofInt (s.1 176 a2)) rfl ?_
    refine z_iadd eX11_findCheapest_232 ?_
    have r6 := h.1
    have h := h.2
    refine z_iast (n := 42) eX11_findCheapest_233 rfl (ofz r3) f4  ?_
    refine z_inc (m := 1) eX11_findCheapest_234 rfl (Nat.le_of_ble_eq_true rfl) rfl ?_
    refine q_aload_n eX11_findCheapest_237 rfl ?_
    refine q_iload_n eX11_findCheapest_238 rfl ?_
    refine q_V1 (ci := 11) (n := 0) eX11_findCheapest_239 DX11_level lX11_508 rfl (by decide) rfl rfl rfl rfl (h.1 (ra_ui (ra_uj (ra_uj (ra_ui hA hra2))) r6) r3) ?_
    rintro _ _ ⟨s7, rfl, hA7, rfl, h⟩
    refine q_goto (tgt := 60) eX11_findCheapest_242 (by decide) ?_
    exact q_subL rfl (h.1 hA7 r3)
  · have h := h.2 c159
    have r8 := h.1
    have h := h.2
    refine z_incN (m := 1) eX11_findCheapest_162 rfl (Nat.le_of_ble_eq_true rfl) rfl ?_
    refine q_goto (tgt := 60) eX11_findCheapest_165 (by decide) ?_
    exact q_subL rfl (h.1 (ra_ui hA hra2) r8)
set_option maxRecDepth 20000 in
theorem s_X11_findCheapest_73 {s : ST} {a1 : Int} {a2 : Int} {Q : ST → Prop} (h : RA s → R32 a1 → R32 a2 → (((0 : Int) ≤ s.1 139 28 ∧ s.1 139 28 < 6) ∧ ((s.1 142 (s.1 139 28) ≤ a2 → K_X11_findCheapest_142 s a1 a2 Q) ∧ (¬ s.1 142 (s.1 139 28) ≤ a2 → (((0 : Int) ≤ a1 ∧ a1 < 42) ∧ ((((lshr (s.2 179 a1) a2) &&& 1) = 0 → (R32 (a2 + 1) ∧ K_X11_findCheapest_73 s a1 (a2 + 1) Q)) ∧ (¬ ((lshr (s.2 179 a1) a2) &&& 1) = 0 → ((((lshr (s.2 178 a1) a2) &&& 1) = 1 → (R32 (a2 + 1) ∧ K_X11_findCheapest_73 s a1 (a2 + 1) Q)) ∧ (¬ ((lshr (s.2 178 a1) a2) &&& 1) = 1 → (((0 : Int) ≤ a2 ∧ a2 < 40) ∧ (R32 (s.1 180 a1 + s.1 176 a2) ∧ (((s.1 180 a1 + s.1 176 a2) ≤ s.1 139 61 → K_X11_findCheapest_142 s a1 a2 Q) ∧ (¬ (s.1 180 a1 + s.1 176 a2) ≤ s.1 139 61 → (R32 (a2 + 1) ∧ K_X11_findCheapest_73 s a1 (a2 + 1) Q)))))))))))))) : K_X11_findCheapest_73 s a1 a2 Q := by
  refine ⟨?_, trivial⟩
  intro hA hra1 hra2
  have h := h hA hra1 hra2
  refine q_iload_n eX11_findCheapest_73 rfl ?_
  refine q_aload_n eX11_findCheapest_74 rfl ?_
  refine q_getR (c := 11) (n := 0) (k := 11) (a := 142) eX11_findCheapest_75 rfl (by decide) (by decide) fX11_20 rfl rfl ?_
  refine q_aload_n eX11_findCheapest_78 rfl ?_
  refine q_getf (c := 11) (n := 0) (k := 28) (v := .int (Int32.ofInt (s.1 139 28))) eX11_findCheapest_79 rfl (by decide) (by decide) fX11_321 rfl ?_
  have f1 := h.1
  have h := h.2
  refine z_iald (n := 6) eX11_findCheapest_82 rfl (ofz (hA _ _)) f1 ?_
  refine q_topI (v := Int32.ofInt (s.1 142 (s.1 139 28))) rfl ?_
  refine q_cz_ge (tgt := 142) (a := a2) (b := s.1 142 (s.1 139 28)) eX11_findCheapest_83 (by decide) (ofz hra2) (ofz (hA _ _)) (fun c83 => ?_) (fun c83 => ?_)
  · have h := h.1 c83
    exact q_subL rfl (h.1 hA hra1 hra2)
  · have h := h.2 c83
    refine q_aload_n eX11_findCheapest_86 rfl ?_
    refine q_getR (c := 11) (n := 0) (k := 57) (a := 179) eX11_findCheapest_87 rfl (by decide) (by decide) fX11_137 rfl rfl ?_
    refine q_iload_n eX11_findCheapest_90 rfl ?_
    have f2 := h.1
    have h := h.2
    refine z_lald (n := 42) eX11_findCheapest_91 rfl (ofz hra1) f2 ?_
    refine q_topL (v := s.2 179 a1) rfl ?_
    refine q_iload_n eX11_findCheapest_92 rfl ?_
    refine z_lshr eX11_findCheapest_93 ?_
    refine q_lc (v := 1) eX11_findCheapest_94 rfl ?_
    refine q_land eX11_findCheapest_95 ?_
    refine q_lc (v := 0) eX11_findCheapest_96 rfl ?_
    refine q_lcmp eX11_findCheapest_97 ?_
    refine z_lc_eq (tgt := 136) eX11_findCheapest_98 (by decide) (fun c98 => ?_) (fun c98 => ?_)
    · have h := h.1 c98
      have r3 := h.1
      have h := h.2
      refine z_inc (m := 1) eX11_findCheapest_136 rfl (Nat.le_of_ble_eq_true rfl) rfl ?_
      refine q_goto (tgt := 73) eX11_findCheapest_139 (by decide) ?_
      exact q_subL rfl (h.1 hA hra1 r3)
    · have h := h.2 c98
      refine q_aload_n eX11_findCheapest_101 rfl ?_
      refine q_getR (c := 11) (n := 0) (k := 56) (a := 178) eX11_findCheapest_102 rfl (by decide) (by decide) fX11_134 rfl rfl ?_
      refine q_iload_n eX11_findCheapest_105 rfl ?_
      refine z_lald (n := 42) eX11_findCheapest_106 rfl (ofz hra1) f2 ?_
      refine q_topL (v := s.2 178 a1) rfl ?_
      refine q_iload_n eX11_findCheapest_107 rfl ?_
      refine z_lshr eX11_findCheapest_108 ?_
      refine q_lc (v := 1) eX11_findCheapest_109 rfl ?_
      refine q_land eX11_findCheapest_110 ?_
      refine q_lc (v := 1) eX11_findCheapest_111 rfl ?_
      refine q_lcmp eX11_findCheapest_112 ?_
      refine z_lc_eq (tgt := 136) eX11_findCheapest_113 (by decide) (fun c113 => ?_) (fun c113 => ?_)
      · have h := h.1 c113
        have r4 := h.1
        have h := h.2
        refine z_inc (m := 1) eX11_findCheapest_136 rfl (Nat.le_of_ble_eq_true rfl) rfl ?_
        refine q_goto (tgt := 73) eX11_findCheapest_139 (by decide) ?_
        exact q_subL rfl (h.1 hA hra1 r4)
      · have h := h.2 c113
        refine q_aload_n eX11_findCheapest_116 rfl ?_
        refine q_getR (c := 11) (n := 0) (k := 58) (a := 180) eX11_findCheapest_117 rfl (by decide) (by decide) fX11_140 rfl rfl ?_
        refine q_iload_n eX11_findCheapest_120 rfl ?_
        refine z_iald (n := 42) eX11_findCheapest_121 rfl (ofz hra1) f2 ?_
        refine q_topI (v := Int32.ofInt (s.1 180 a1)) rfl ?_
        refine q_aload_n eX11_findCheapest_122 rfl ?_
        refine q_getR (c := 11) (n := 0) (k := 54) (a := 176) eX11_findCheapest_123 rfl (by decide) (by decide) fX11_128 rfl rfl ?_
        refine q_iload_n eX11_findCheapest_126 rfl ?_
        have f5 := h.1
        have h := h.2
        refine z_iald (n := 40) eX11_findCheapest_127 rfl (ofz hra2) f5 ?_
        refine q_topI (v := Int32.ofInt (s.1 176 a2)) rfl ?_
        refine z_iadd eX11_findCheapest_128 ?_
        have r6 := h.1
        have h := h.2
        refine q_aload_n eX11_findCheapest_129 rfl ?_
        refine q_getf (c := 11) (n := 0) (k := 61) (v := .int (Int32.ofInt (s.1 139 61))) eX11_findCheapest_130 rfl (by decide) (by decide) fX11_499 rfl ?_
        refine q_cz_le (tgt := 142) (a := (s.1 180 a1 + s.1 176 a2)) (b := s.1 139 61) eX11_findCheapest_133 (by decide) (ofz r6) (ofz (hA _ _)) (fun c133 => ?_) (fun c133 => ?_)
        · have h := h.1 c133
          exact q_subL rfl (h.1 hA hra1 hra2)
        · have h := h.2 c133
          have r7 := h.1
          have h := h.2
          refine z_inc (m := 1) eX11_findCheapest_136 rfl (Nat.le_of_ble_eq_true rfl) rfl ?_
          refine q_goto (tgt := 73) eX11_findCheapest_139 (by decide) ?_
          exact q_subL rfl (h.1 hA hra1 r7)
set_option maxRecDepth 20000 in
theorem s_X11_findCheapest_60 {s : ST} {a1 : Int} {Q : ST → Prop} (h : RA s → R32 a1 → ((a1 < 0 → Q s) ∧ (¬ a1 < 0 → (((0 : Int) ≤ a1 ∧ a1 < 42) ∧ (R32 (s.1 181 a1 + 1) ∧ K_X11_findCheapest_73 s a1 (s.1 181 a1 + 1) Q))))) : K_X11_findCheapest_60 s a1 Q := by
  refine ⟨?_, trivial⟩
  intro hA hra1
  have h := h hA hra1
  refine q_iload_n eX11_findCheapest_60 rfl ?_
  refine q_iz_lt (tgt := 245) (a := a1) eX11_findCheapest_61 (by decide) (ofz hra1) (fun c61 => ?_) (fun c61 => ?_)
  · have h := h.1 c61
    exact q_ret eX11_findCheapest_245 rfl ⟨_, rfl, hA, rfl, h⟩
  · have h := h.2 c61
    refine q_aload_n eX11_findCheapest_64 rfl ?_
    refine q_getR (c := 11) (n := 0) (k := 59) (a := 181) eX11_findCheapest_65 rfl (by decide) (by decide) fX11_143 rfl rfl ?_
    refine q_iload_n eX11_findCheapest_68 rfl ?_
    have f1 := h.1
    have h := h.2
    refine z_iald (n := 42) eX11_findCheapest_69 rfl (ofz hra1) f1 ?_
    refine q_topI (v := Int32.ofInt (s.1 181 a1)) rfl ?_
    refine q_ic (v := Int32.ofInt 1) eX11_findCheapest_70 rfl ?_
    refine z_iadd eX11_findCheapest_71 ?_
    have r2 := h.1
    have h := h.2
    refine q_istore_n eX11_findCheapest_72 (Nat.le_of_ble_eq_true rfl) ?_
    exact q_subL rfl (h.1 hA hra1 r2)
set_option maxRecDepth 20000 in
theorem s_X11_findCheapest {s : ST} {Q : ST → Prop} (h : RA s → ((s.1 139 62 = 0 → (C_X11_layNow (ui s 139 62 1) (fun s1 => (C_X11_wholeTrust s1 (fun s2 v2 => (R32 (v2 + 1) ∧ (((0 : Int) ≤ (0 : Int) ∧ (0 : Int) < 42) ∧ (C_X11_level (ui (uj (uj (uj (ui s2 139 61 (v2 + 1)) 139 60 0) 177 0 0) 178 0 0) 180 0 0) 0 (fun s5 => K_X11_findCheapest_60 s5 0 Q))))))))) ∧ (¬ s.1 139 62 = 0 → Q s))) : C_X11_findCheapest s Q := by
  refine ⟨?_, trivial⟩
  intro hA
  have h := h hA
  refine q_enter (by decide) (Nat.le_of_ble_eq_true rfl) ?_
  refine q_aload_n eX11_findCheapest_0 rfl ?_
  refine q_getf (c := 11) (n := 0) (k := 62) (v := .int (Int32.ofInt (s.1 139 62))) eX11_findCheapest_1 rfl (by decide) (by decide) fX11_492 rfl ?_
  refine q_iz_eq (tgt := 8) (a := s.1 139 62) eX11_findCheapest_4 (by decide) (ofz (hA _ _)) (fun c4 => ?_) (fun c4 => ?_)
  · have h := h.1 c4
    refine q_aload_n eX11_findCheapest_8 rfl ?_
    refine q_ic (v := Int32.ofInt 1) eX11_findCheapest_9 rfl ?_
    refine z_putZ (c := 11) (n := 0) (k := 62) (kz := 62) eX11_findCheapest_10 rfl (by decide) (by decide) fX11_492 rfl rfl rfl (z01 (Or.inr rfl)) ?_
    refine q_aload_n eX11_findCheapest_13 rfl ?_
    refine q_V0 (ci := 11) (n := 0) eX11_findCheapest_14 DX11_layNow lX11_460 rfl (by decide) rfl rfl rfl rfl (h.1 (ra_ui hA (r32l rfl))) ?_
    rintro _ _ ⟨s1, rfl, hA1, rfl, h⟩
    refine q_aload_n eX11_findCheapest_17 rfl ?_
    refine q_aload_n eX11_findCheapest_18 rfl ?_
    refine q_V0 (ci := 11) (n := 0) eX11_findCheapest_19 DX11_wholeTrust lX11_505 rfl (by decide) rfl rfl rfl rfl (h.1 hA1) ?_
    rintro _ _ ⟨s2, v2, rfl, hA2, r2, rfl, h⟩
    refine q_ic (v := Int32.ofInt 1) eX11_findCheapest_22 rfl ?_
    refine z_iadd eX11_findCheapest_23 ?_
    have r3 := h.1
    have h := h.2
    refine z_putI (c := 11) (n := 0) (k := 61) (kz := 61) eX11_findCheapest_24 rfl (by decide) (by decide) fX11_499 rfl rfl rfl ?_
    refine q_aload_n eX11_findCheapest_27 rfl ?_
    refine q_lc (v := 0) eX11_findCheapest_28 rfl ?_
    refine z_putJ (c := 11) (n := 0) (k := 60) (kz := 60) eX11_findCheapest_29 rfl (by decide) (by decide) fX11_502 rfl rfl rfl ?_
    refine q_aload_n eX11_findCheapest_32 rfl ?_
    refine q_getR (c := 11) (n := 0) (k := 55) (a := 177) eX11_findCheapest_33 rfl (by decide) (by decide) fX11_131 rfl rfl ?_
    refine q_ic (v := Int32.ofInt 0) eX11_findCheapest_36 rfl ?_
    refine q_lc (v := 0) eX11_findCheapest_37 rfl ?_
    have f4 := h.1
    have h := h.2
    refine z_last (n := 42) eX11_findCheapest_38 rfl (ofz (r32l rfl)) f4  ?_
    refine q_aload_n eX11_findCheapest_39 rfl ?_
    refine q_getR (c := 11) (n := 0) (k := 56) (a := 178) eX11_findCheapest_40 rfl (by decide) (by decide) fX11_134 rfl rfl ?_
    refine q_ic (v := Int32.ofInt 0) eX11_findCheapest_43 rfl ?_
    refine q_lc (v := 0) eX11_findCheapest_44 rfl ?_
    refine z_last (n := 42) eX11_findCheapest_45 rfl (ofz (r32l rfl)) f4  ?_
    refine q_aload_n eX11_findCheapest_46 rfl ?_
    refine q_getR (c := 11) (n := 0) (k := 58) (a := 180) eX11_findCheapest_47 rfl (by decide) (by decide) fX11_140 rfl rfl ?_
    refine q_ic (v := Int32.ofInt 0) eX11_findCheapest_50 rfl ?_
    refine q_ic (v := Int32.ofInt 0) eX11_findCheapest_51 rfl ?_
    refine z_iast (n := 42) eX11_findCheapest_52 rfl (ofz (r32l rfl)) f4  ?_
    refine q_aload_n eX11_findCheapest_53 rfl ?_
    refine q_ic (v := Int32.ofInt 0) eX11_findCheapest_54 rfl ?_
    refine q_V1 (ci := 11) (n := 0) eX11_findCheapest_55 DX11_level lX11_508 rfl (by decide) rfl rfl rfl rfl (h.1 (ra_ui (ra_uj (ra_uj (ra_uj (ra_ui hA2 r3)))) (r32l rfl)) (r32l rfl)) ?_
    rintro _ _ ⟨s5, rfl, hA5, rfl, h⟩
    refine q_ic (v := Int32.ofInt 0) eX11_findCheapest_58 rfl ?_
    refine q_istore_n eX11_findCheapest_59 (Nat.le_of_ble_eq_true rfl) ?_
    exact q_subL rfl (h.1 hA5 (r32l rfl))
  · have h := h.2 c4
    exact q_ret eX11_findCheapest_7 rfl ⟨_, rfl, hA, rfl, h⟩
theorem eX11_cheapest_0 : decode cX11_cheapest 0 = .ok (.aload_n 0, 1) := by decide +kernel
theorem eX11_cheapest_1 : decode cX11_cheapest 1 = .ok (.getfield 20, 3) := by decide +kernel
theorem eX11_cheapest_4 : decode cX11_cheapest 4 = .ok (.aload_n 0, 1) := by decide +kernel
theorem eX11_cheapest_5 : decode cX11_cheapest 5 = .ok (.getfield 321, 3) := by decide +kernel
theorem eX11_cheapest_8 : decode cX11_cheapest 8 = .ok (.iaload, 1) := by decide +kernel
theorem eX11_cheapest_9 : decode cX11_cheapest 9 = .ok (.bipush 24, 2) := by decide +kernel
theorem eX11_cheapest_11 : decode cX11_cheapest 11 = .ok (.if_icmp .le 7, 3) := by decide +kernel
theorem eX11_cheapest_14 : decode cX11_cheapest 14 = .ok (.ldc2_w 511, 3) := by decide +kernel
theorem eX11_cheapest_17 : decode cX11_cheapest 17 = .ok (.lreturn, 1) := by decide +kernel
theorem eX11_cheapest_18 : decode cX11_cheapest 18 = .ok (.aload_n 0, 1) := by decide +kernel
theorem eX11_cheapest_19 : decode cX11_cheapest 19 = .ok (.invokevirtual 513, 3) := by decide +kernel
theorem eX11_cheapest_22 : decode cX11_cheapest 22 = .ok (.aload_n 0, 1) := by decide +kernel
theorem eX11_cheapest_23 : decode cX11_cheapest 23 = .ok (.getfield 502, 3) := by decide +kernel
theorem eX11_cheapest_26 : decode cX11_cheapest 26 = .ok (.lreturn, 1) := by decide +kernel
def C_X11_cheapest (s : ST) (Q : ST → Int64 → Prop) : Prop := bx <| RA s → q_met mX11_cheapest (qs layM s) [.ref 139] (PL layM Q)
theorem C_X11_cheapest.mono {s : ST} {Q Q' : ST → Int64 → Prop} (h : C_X11_cheapest s Q) (hq : ∀ s v, Q s v → Q' s v) : C_X11_cheapest s Q' := ⟨fun hA => q_met.mono (h.1 hA) (fun _ _ => PL.mono hq), trivial⟩
set_option maxRecDepth 20000 in
theorem s_X11_cheapest {s : ST} {Q : ST → Int64 → Prop} (h : RA s → (((0 : Int) ≤ s.1 139 28 ∧ s.1 139 28 < 6) ∧ ((s.1 142 (s.1 139 28) ≤ 24 → (C_X11_findCheapest s (fun s2 => Q s2 (s2.2 139 60)))) ∧ (¬ s.1 142 (s.1 139 28) ≤ 24 → Q s (-2))))) : C_X11_cheapest s Q := by
  refine ⟨?_, trivial⟩
  intro hA
  have h := h hA
  refine q_enter (by decide) (Nat.le_of_ble_eq_true rfl) ?_
  refine q_aload_n eX11_cheapest_0 rfl ?_
  refine q_getR (c := 11) (n := 0) (k := 11) (a := 142) eX11_cheapest_1 rfl (by decide) (by decide) fX11_20 rfl rfl ?_
  refine q_aload_n eX11_cheapest_4 rfl ?_
  refine q_getf (c := 11) (n := 0) (k := 28) (v := .int (Int32.ofInt (s.1 139 28))) eX11_cheapest_5 rfl (by decide) (by decide) fX11_321 rfl ?_
  have f1 := h.1
  have h := h.2
  refine z_iald (n := 6) eX11_cheapest_8 rfl (ofz (hA _ _)) f1 ?_
  refine q_topI (v := Int32.ofInt (s.1 142 (s.1 139 28))) rfl ?_
  refine q_bi (v := Int32.ofInt 24) eX11_cheapest_9 rfl ?_
  refine q_cz_le (tgt := 18) (a := s.1 142 (s.1 139 28)) (b := 24) eX11_cheapest_11 (by decide) (ofz (hA _ _)) (ofz (r32l rfl)) (fun c11 => ?_) (fun c11 => ?_)
  · have h := h.1 c11
    refine q_aload_n eX11_cheapest_18 rfl ?_
    refine q_V0 (ci := 11) (n := 0) eX11_cheapest_19 DX11_findCheapest lX11_513 rfl (by decide) rfl rfl rfl rfl (h.1 hA) ?_
    rintro _ _ ⟨s2, rfl, hA2, rfl, h⟩
    refine q_aload_n eX11_cheapest_22 rfl ?_
    refine q_getf (c := 11) (n := 0) (k := 60) (v := .long (s2.2 139 60)) eX11_cheapest_23 rfl (by decide) (by decide) fX11_502 rfl ?_
    exact q_lret eX11_cheapest_26 rfl ⟨_, _, rfl, hA2, rfl, h⟩
  · have h := h.2 c11
    refine q_ldc2 (v := (-2)) eX11_cheapest_14 nX11_511 ?_
    exact q_lret eX11_cheapest_17 rfl ⟨_, _, rfl, hA, rfl, h⟩
theorem eX11_wordOf_0 : decode cX11_wordOf 0 = .ok (.iload_n 1, 1) := by decide +kernel
theorem eX11_wordOf_1 : decode cX11_wordOf 1 = .ok (.bipush 100, 2) := by decide +kernel
theorem eX11_wordOf_3 : decode cX11_wordOf 3 = .ok (.if_icmp .lt 23, 3) := by decide +kernel
theorem eX11_wordOf_6 : decode cX11_wordOf 6 = .ok (.aload_n 0, 1) := by decide +kernel
theorem eX11_wordOf_7 : decode cX11_wordOf 7 = .ok (.getfield 66, 3) := by decide +kernel
theorem eX11_wordOf_10 : decode cX11_wordOf 10 = .ok (.bipush 8, 2) := by decide +kernel
theorem eX11_wordOf_12 : decode cX11_wordOf 12 = .ok (.aload_n 0, 1) := by decide +kernel
theorem eX11_wordOf_13 : decode cX11_wordOf 13 = .ok (.getfield 321, 3) := by decide +kernel
theorem eX11_wordOf_16 : decode cX11_wordOf 16 = .ok (.imul, 1) := by decide +kernel
theorem eX11_wordOf_17 : decode cX11_wordOf 17 = .ok (.iload_n 1, 1) := by decide +kernel
theorem eX11_wordOf_18 : decode cX11_wordOf 18 = .ok (.iadd, 1) := by decide +kernel
theorem eX11_wordOf_19 : decode cX11_wordOf 19 = .ok (.bipush 100, 2) := by decide +kernel
theorem eX11_wordOf_21 : decode cX11_wordOf 21 = .ok (.isub, 1) := by decide +kernel
theorem eX11_wordOf_22 : decode cX11_wordOf 22 = .ok (.laload, 1) := by decide +kernel
theorem eX11_wordOf_23 : decode cX11_wordOf 23 = .ok (.goto 17, 3) := by decide +kernel
theorem eX11_wordOf_26 : decode cX11_wordOf 26 = .ok (.aload_n 0, 1) := by decide +kernel
theorem eX11_wordOf_27 : decode cX11_wordOf 27 = .ok (.getfield 70, 3) := by decide +kernel
theorem eX11_wordOf_30 : decode cX11_wordOf 30 = .ok (.bipush 40, 2) := by decide +kernel
theorem eX11_wordOf_32 : decode cX11_wordOf 32 = .ok (.aload_n 0, 1) := by decide +kernel
theorem eX11_wordOf_33 : decode cX11_wordOf 33 = .ok (.getfield 321, 3) := by decide +kernel
theorem eX11_wordOf_36 : decode cX11_wordOf 36 = .ok (.imul, 1) := by decide +kernel
theorem eX11_wordOf_37 : decode cX11_wordOf 37 = .ok (.iload_n 1, 1) := by decide +kernel
theorem eX11_wordOf_38 : decode cX11_wordOf 38 = .ok (.iadd, 1) := by decide +kernel
theorem eX11_wordOf_39 : decode cX11_wordOf 39 = .ok (.laload, 1) := by decide +kernel
theorem eX11_wordOf_40 : decode cX11_wordOf 40 = .ok (.lreturn, 1) := by decide +kernel
def C_X11_wordOf (s : ST) (p : Int) (Q : ST → Int64 → Prop) : Prop := bx <| RA s → R32 p → q_met mX11_wordOf (qs layM s) [.ref 139, .int (Int32.ofInt p)] (PL layM Q)
theorem C_X11_wordOf.mono {s : ST} {p : Int} {Q Q' : ST → Int64 → Prop} (h : C_X11_wordOf s p Q) (hq : ∀ s v, Q s v → Q' s v) : C_X11_wordOf s p Q' := ⟨fun hA hrp => q_met.mono (h.1 hA hrp) (fun _ _ => PL.mono hq), trivial⟩
set_option maxRecDepth 20000 in
theorem s_X11_wordOf {s : ST} {p : Int} {Q : ST → Int64 → Prop} (h : RA s → R32 p → ((p < 100 → (R32 (40 * s.1 139 28) ∧ (R32 ((40 * s.1 139 28) + p) ∧ (((0 : Int) ≤ ((40 * s.1 139 28) + p) ∧ ((40 * s.1 139 28) + p) < 240) ∧ Q s (s.2 158 ((40 * s.1 139 28) + p)))))) ∧ (¬ p < 100 → (R32 (8 * s.1 139 28) ∧ (R32 ((8 * s.1 139 28) + p) ∧ (R32 (((8 * s.1 139 28) + p) - 100) ∧ (((0 : Int) ≤ (((8 * s.1 139 28) + p) - 100) ∧ (((8 * s.1 139 28) + p) - 100) < 48) ∧ Q s (s.2 157 (((8 * s.1 139 28) + p) - 100))))))))) : C_X11_wordOf s p Q := by
  refine ⟨?_, trivial⟩
  intro hA hrp
  have h := h hA hrp
  refine q_enter (by decide) (Nat.le_of_ble_eq_true rfl) ?_
  refine q_iload_n eX11_wordOf_0 rfl ?_
  refine q_bi (v := Int32.ofInt 100) eX11_wordOf_1 rfl ?_
  refine q_cz_lt (tgt := 26) (a := p) (b := 100) eX11_wordOf_3 (by decide) (ofz hrp) (ofz (r32l rfl)) (fun c3 => ?_) (fun c3 => ?_)
  · have h := h.1 c3
    refine q_aload_n eX11_wordOf_26 rfl ?_
    refine q_getR (c := 11) (n := 0) (k := 27) (a := 158) eX11_wordOf_27 rfl (by decide) (by decide) fX11_70 rfl rfl ?_
    refine q_bi (v := Int32.ofInt 40) eX11_wordOf_30 rfl ?_
    refine q_aload_n eX11_wordOf_32 rfl ?_
    refine q_getf (c := 11) (n := 0) (k := 28) (v := .int (Int32.ofInt (s.1 139 28))) eX11_wordOf_33 rfl (by decide) (by decide) fX11_321 rfl ?_
    refine z_imul eX11_wordOf_36 ?_
    have r1 := h.1
    have h := h.2
    refine q_iload_n eX11_wordOf_37 rfl ?_
    refine z_iadd eX11_wordOf_38 ?_
    have r2 := h.1
    have h := h.2
    have f3 := h.1
    have h := h.2
    refine z_lald (n := 240) eX11_wordOf_39 rfl (ofz r2) f3 ?_
    refine q_topL (v := s.2 158 ((40 * s.1 139 28) + p)) rfl ?_
    exact q_lret eX11_wordOf_40 rfl ⟨_, _, rfl, hA, rfl, h⟩
  · have h := h.2 c3
    refine q_aload_n eX11_wordOf_6 rfl ?_
    refine q_getR (c := 11) (n := 0) (k := 26) (a := 157) eX11_wordOf_7 rfl (by decide) (by decide) fX11_66 rfl rfl ?_
    refine q_bi (v := Int32.ofInt 8) eX11_wordOf_10 rfl ?_
    refine q_aload_n eX11_wordOf_12 rfl ?_
    refine q_getf (c := 11) (n := 0) (k := 28) (v := .int (Int32.ofInt (s.1 139 28))) eX11_wordOf_13 rfl (by decide) (by decide) fX11_321 rfl ?_
    refine z_imul eX11_wordOf_16 ?_
    have r4 := h.1
    have h := h.2
    refine q_iload_n eX11_wordOf_17 rfl ?_
    refine z_iadd eX11_wordOf_18 ?_
    have r5 := h.1
    have h := h.2
    refine q_bi (v := Int32.ofInt 100) eX11_wordOf_19 rfl ?_
    refine z_isub eX11_wordOf_21 ?_
    have r6 := h.1
    have h := h.2
    have f7 := h.1
    have h := h.2
    refine z_lald (n := 48) eX11_wordOf_22 rfl (ofz r6) f7 ?_
    refine q_topL (v := s.2 157 (((8 * s.1 139 28) + p) - 100)) rfl ?_
    refine q_goto (tgt := 40) eX11_wordOf_23 (by decide) ?_
    exact q_lret eX11_wordOf_40 rfl ⟨_, _, rfl, hA, rfl, h⟩
def F_X11_wordOf (s : ST) (p : Int) : Int64 := (if p < 100 then s.2 158 ((40 * s.1 139 28) + p) else s.2 157 (((8 * s.1 139 28) + p) - 100))
abbrev P_X11_wordOf (s : ST) (p : Int) : Prop := ((p < 100 → (R32 (40 * s.1 139 28) ∧ R32 ((40 * s.1 139 28) + p) ∧ ((0 : Int) ≤ ((40 * s.1 139 28) + p) ∧ ((40 * s.1 139 28) + p) < 240))) ∧ (¬ p < 100 → (R32 (8 * s.1 139 28) ∧ R32 ((8 * s.1 139 28) + p) ∧ R32 (((8 * s.1 139 28) + p) - 100) ∧ ((0 : Int) ≤ (((8 * s.1 139 28) + p) - 100) ∧ (((8 * s.1 139 28) + p) - 100) < 48))))
theorem w_X11_wordOf {s : ST} {p : Int} (h : P_X11_wordOf s p) : C_X11_wordOf s p (fun s' v => s' = s ∧ v = F_X11_wordOf s p) := by
  refine s_X11_wordOf (fun hA hrp => ?_)
  unfold P_X11_wordOf at h
  refine ⟨fun e0 => ?_, fun e0 => ?_⟩
  · have h := h.1 e0
    refine ⟨h.1, ?_⟩
    have h := h.2
    refine ⟨h.1, ?_⟩
    have h := h.2
    refine ⟨h, ?_⟩
    exact ⟨rfl, by unfold F_X11_wordOf; rw [if_pos e0]⟩
  · have h := h.2 e0
    refine ⟨h.1, ?_⟩
    have h := h.2
    refine ⟨h.1, ?_⟩
    have h := h.2
    refine ⟨h.1, ?_⟩
    have h := h.2
    refine ⟨h, ?_⟩
    exact ⟨rfl, by unfold F_X11_wordOf; rw [if_neg e0]⟩
theorem p_X11_wordOf {s : ST} {p : Int} (h : P_X11_wordOf s p) : RA s → R32 p → q_met mX11_wordOf (qs layM s) [.ref 139, .int (Int32.ofInt p)] (fun σ r => σ = qs layM s ∧ r = some (.long (F_X11_wordOf s p))) := fun hA hrp => q_met.mono ((w_X11_wordOf h).1 hA hrp) (by
  rintro _ _ ⟨s1, v1, rfl, h1, rfl, rfl, rfl⟩
  exact ⟨rfl, rfl⟩)
theorem eX11_means_0 : decode cX11_means 0 = .ok (.iconst 0, 1) := by decide +kernel
theorem eX11_means_1 : decode cX11_means 1 = .ok (.istore 4, 2) := by decide +kernel
theorem eX11_means_3 : decode cX11_means 3 = .ok (.iload 4, 2) := by decide +kernel
theorem eX11_means_5 : decode cX11_means 5 = .ok (.aload_n 0, 1) := by decide +kernel
theorem eX11_means_6 : decode cX11_means 6 = .ok (.getfield 516, 3) := by decide +kernel
theorem eX11_means_9 : decode cX11_means 9 = .ok (.if_icmp .ge 26, 3) := by decide +kernel
theorem eX11_means_12 : decode cX11_means 12 = .ok (.aload_n 0, 1) := by decide +kernel
theorem eX11_means_13 : decode cX11_means 13 = .ok (.aload_n 0, 1) := by decide +kernel
theorem eX11_means_14 : decode cX11_means 14 = .ok (.getfield 161, 3) := by decide +kernel
theorem eX11_means_17 : decode cX11_means 17 = .ok (.iload 4, 2) := by decide +kernel
theorem eX11_means_19 : decode cX11_means 19 = .ok (.iaload, 1) := by decide +kernel
theorem eX11_means_20 : decode cX11_means 20 = .ok (.invokevirtual 523, 3) := by decide +kernel
theorem eX11_means_23 : decode cX11_means 23 = .ok (.lload_n 2, 1) := by decide +kernel
theorem eX11_means_24 : decode cX11_means 24 = .ok (.lcmp, 1) := by decide +kernel
theorem eX11_means_25 : decode cX11_means 25 = .ok (.ifCond .ne 4, 3) := by decide +kernel
theorem eX11_means_28 : decode cX11_means 28 = .ok (.return_, 1) := by decide +kernel
theorem eX11_means_29 : decode cX11_means 29 = .ok (.iinc 4 1, 3) := by decide +kernel
theorem eX11_means_32 : decode cX11_means 32 = .ok (.goto (-29), 3) := by decide +kernel
theorem eX11_means_35 : decode cX11_means 35 = .ok (.aload_n 0, 1) := by decide +kernel
theorem eX11_means_36 : decode cX11_means 36 = .ok (.getfield 161, 3) := by decide +kernel
theorem eX11_means_39 : decode cX11_means 39 = .ok (.aload_n 0, 1) := by decide +kernel
theorem eX11_means_40 : decode cX11_means 40 = .ok (.getfield 516, 3) := by decide +kernel
theorem eX11_means_43 : decode cX11_means 43 = .ok (.iload_n 1, 1) := by decide +kernel
theorem eX11_means_44 : decode cX11_means 44 = .ok (.iastore, 1) := by decide +kernel
theorem eX11_means_45 : decode cX11_means 45 = .ok (.aload_n 0, 1) := by decide +kernel
theorem eX11_means_46 : decode cX11_means 46 = .ok (.dup, 1) := by decide +kernel
theorem eX11_means_47 : decode cX11_means 47 = .ok (.getfield 516, 3) := by decide +kernel
theorem eX11_means_50 : decode cX11_means 50 = .ok (.iconst 1, 1) := by decide +kernel
theorem eX11_means_51 : decode cX11_means 51 = .ok (.iadd, 1) := by decide +kernel
theorem eX11_means_52 : decode cX11_means 52 = .ok (.putfield 516, 3) := by decide +kernel
theorem eX11_means_55 : decode cX11_means 55 = .ok (.return_, 1) := by decide +kernel
def C_X11_means (s : ST) (p : Int) (q : Int64) (Q : ST → Prop) : Prop := bx <| RA s → R32 p → q_met mX11_means (qs layM s) [.ref 139, .int (Int32.ofInt p), .long q] (PV layM Q)
theorem C_X11_means.mono {s : ST} {p : Int} {q : Int64} {Q Q' : ST → Prop} (h : C_X11_means s p q Q) (hq : ∀ s, Q s → Q' s) : C_X11_means s p q Q' := ⟨fun hA hrp => q_met.mono (h.1 hA hrp) (fun _ _ => PV.mono hq), trivial⟩
def K_X11_means_3 (s : ST) (a1 : Int) (a2 : Int64) (a4 : Int) (Q : ST → Prop) : Prop := bx <| RA s → R32 a1 → R32 a4 → q_K mX11_means (qs layM s) 0 0 3 [(0, .ref 139), (1, .int (Int32.ofInt a1)), (2, .long a2), (4, .int (Int32.ofInt a4))] [] (q_fin mX11_means (PV layM Q))
set_option maxRecDepth 20000 in
theorem s_X11_means_3 {s : ST} {a1 : Int} {a2 : Int64} {a4 : Int} {Q : ST → Prop} (h : RA s → R32 a1 → R32 a4 → ((s.1 139 71 ≤ a4 → (((0 : Int) ≤ s.1 139 71 ∧ s.1 139 71 < 40) ∧ (R32 (s.1 139 71 + 1) ∧ Q (ui (ui s 187 (s.1 139 71) a1) 139 71 (s.1 139 71 + 1))))) ∧ (¬ s.1 139 71 ≤ a4 → (((0 : Int) ≤ a4 ∧ a4 < 40) ∧ (P_X11_wordOf s (s.1 187 a4) ∧ ((¬ (F_X11_wordOf s (s.1 187 a4)) = a2 → (R32 (a4 + 1) ∧ K_X11_means_3 s a1 a2 (a4 + 1) Q)) ∧ ((F_X11_wordOf s (s.1 187 a4)) = a2 → Q s))))))) : K_X11_means_3 s a1 a2 a4 Q := by
  refine ⟨?_, trivial⟩
  intro hA hra1 hra4
  have h := h hA hra1 hra4
  refine q_iload eX11_means_3 rfl ?_
  refine q_aload_n eX11_means_5 rfl ?_
  refine q_getf (c := 11) (n := 0) (k := 71) (v := .int (Int32.ofInt (s.1 139 71))) eX11_means_6 rfl (by decide) (by decide) fX11_516 rfl ?_
  refine q_cz_ge (tgt := 35) (a := a4) (b := s.1 139 71) eX11_means_9 (by decide) (ofz hra4) (ofz (hA _ _)) (fun c9 => ?_) (fun c9 => ?_)
  · have h := h.1 c9
    refine q_aload_n eX11_means_35 rfl ?_
    refine q_getR (c := 11) (n := 0) (k := 69) (a := 187) eX11_means_36 rfl (by decide) (by decide) fX11_161 rfl rfl ?_
    refine q_aload_n eX11_means_39 rfl ?_
    refine q_getf (c := 11) (n := 0) (k := 71) (v := .int (Int32.ofInt (s.1 139 71))) eX11_means_40 rfl (by decide) (by decide) fX11_516 rfl ?_
    refine q_iload_n eX11_means_43 rfl ?_
    have f1 := h.1
    have h := h.2
    refine z_iast (n := 40) eX11_means_44 rfl (ofz (hA _ _)) f1  ?_
    refine q_aload_n eX11_means_45 rfl ?_
    refine q_dup eX11_means_46 rfl ?_
    refine q_getf (c := 11) (n := 0) (k := 71) (v := .int (Int32.ofInt (s.1 139 71))) eX11_means_47 rfl (by decide) (by decide) fX11_516 rfl ?_
    refine q_ic (v := Int32.ofInt 1) eX11_means_50 rfl ?_
    refine z_iadd eX11_means_51 ?_
    have r2 := h.1
    have h := h.2
    refine z_putI (c := 11) (n := 0) (k := 71) (kz := 71) eX11_means_52 rfl (by decide) (by decide) fX11_516 rfl rfl rfl ?_
    exact q_ret eX11_means_55 rfl ⟨_, rfl, (ra_ui (ra_ui hA hra1) r2), rfl, h⟩
  · have h := h.2 c9
    refine q_aload_n eX11_means_12 rfl ?_
    refine q_aload_n eX11_means_13 rfl ?_
    refine q_getR (c := 11) (n := 0) (k := 69) (a := 187) eX11_means_14 rfl (by decide) (by decide) fX11_161 rfl rfl ?_
    refine q_iload eX11_means_17 rfl ?_
    have f3 := h.1
    have h := h.2
    refine z_iald (n := 40) eX11_means_19 rfl (ofz hra4) f3 ?_
    refine q_topI (v := Int32.ofInt (s.1 187 a4)) rfl ?_
    have f5 := h.1
    have h := h.2
    refine q_V1 (ci := 11) (n := 0) eX11_means_20 DX11_wordOf lX11_523 rfl (by decide) rfl rfl rfl rfl (p_X11_wordOf f5 hA (hA _ _)) ?_
    rintro _ _ ⟨rfl, rfl⟩
    refine q_lload_n eX11_means_23 rfl ?_
    refine q_lcmp eX11_means_24 ?_
    refine z_lc_ne (tgt := 29) eX11_means_25 (by decide) (fun c25 => ?_) (fun c25 => ?_)
    · have h := h.1 c25
      have r6 := h.1
      have h := h.2
      refine z_inc (m := 1) eX11_means_29 rfl (Nat.le_of_ble_eq_true rfl) rfl ?_
      refine q_goto (tgt := 3) eX11_means_32 (by decide) ?_
      exact q_subL rfl (h.1 hA hra1 r6)
    · have h := h.2 c25
      exact q_ret eX11_means_28 rfl ⟨_, rfl, hA, rfl, h⟩
set_option maxRecDepth 20000 in
theorem s_X11_means {s : ST} {p : Int} {q : Int64} {Q : ST → Prop} (h : RA s → R32 p → K_X11_means_3 s p q 0 Q) : C_X11_means s p q Q := by
  refine ⟨?_, trivial⟩
  intro hA hrp
  have h := h hA hrp
  refine q_enter (by decide) (Nat.le_of_ble_eq_true rfl) ?_
  refine q_ic (v := Int32.ofInt 0) eX11_means_0 rfl ?_
  refine q_istore eX11_means_1 (Nat.le_of_ble_eq_true rfl) ?_
  exact q_subL rfl (h.1 hA hrp (r32l rfl))
