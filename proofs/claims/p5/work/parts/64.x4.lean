/-! STEP ROWS of the class. By program (wip/wp/gen_parts.py). -/
theorem eX9_copyPlace_0 : decode cX9_copyPlace 0 = .ok (.aload_n 1, 1) := by decide +kernel
theorem eX9_copyPlace_1 : decode cX9_copyPlace 1 = .ok (.iload_n 2, 1) := by decide +kernel
theorem eX9_copyPlace_2 : decode cX9_copyPlace 2 = .ok (.invokevirtual 71, 3) := by decide +kernel
theorem eX9_copyPlace_5 : decode cX9_copyPlace 5 = .ok (.ifCond .eq 11, 3) := by decide +kernel
theorem eX9_copyPlace_8 : decode cX9_copyPlace 8 = .ok (.aload_n 0, 1) := by decide +kernel
theorem eX9_copyPlace_9 : decode cX9_copyPlace 9 = .ok (.iload_n 3, 1) := by decide +kernel
theorem eX9_copyPlace_10 : decode cX9_copyPlace 10 = .ok (.invokevirtual 71, 3) := by decide +kernel
theorem eX9_copyPlace_13 : decode cX9_copyPlace 13 = .ok (.ifCond .ne 4, 3) := by decide +kernel
theorem eX9_copyPlace_16 : decode cX9_copyPlace 16 = .ok (.return_, 1) := by decide +kernel
theorem eX9_copyPlace_17 : decode cX9_copyPlace 17 = .ok (.aload_n 0, 1) := by decide +kernel
theorem eX9_copyPlace_18 : decode cX9_copyPlace 18 = .ok (.getfield 19, 3) := by decide +kernel
theorem eX9_copyPlace_21 : decode cX9_copyPlace 21 = .ok (.iload_n 3, 1) := by decide +kernel
theorem eX9_copyPlace_22 : decode cX9_copyPlace 22 = .ok (.aload_n 1, 1) := by decide +kernel
theorem eX9_copyPlace_23 : decode cX9_copyPlace 23 = .ok (.getfield 19, 3) := by decide +kernel
theorem eX9_copyPlace_26 : decode cX9_copyPlace 26 = .ok (.iload_n 2, 1) := by decide +kernel
theorem eX9_copyPlace_27 : decode cX9_copyPlace 27 = .ok (.iaload, 1) := by decide +kernel
theorem eX9_copyPlace_28 : decode cX9_copyPlace 28 = .ok (.iastore, 1) := by decide +kernel
theorem eX9_copyPlace_29 : decode cX9_copyPlace 29 = .ok (.aload_n 0, 1) := by decide +kernel
theorem eX9_copyPlace_30 : decode cX9_copyPlace 30 = .ok (.getfield 22, 3) := by decide +kernel
theorem eX9_copyPlace_33 : decode cX9_copyPlace 33 = .ok (.iload_n 3, 1) := by decide +kernel
theorem eX9_copyPlace_34 : decode cX9_copyPlace 34 = .ok (.aload_n 1, 1) := by decide +kernel
theorem eX9_copyPlace_35 : decode cX9_copyPlace 35 = .ok (.getfield 22, 3) := by decide +kernel
theorem eX9_copyPlace_38 : decode cX9_copyPlace 38 = .ok (.iload_n 2, 1) := by decide +kernel
theorem eX9_copyPlace_39 : decode cX9_copyPlace 39 = .ok (.iaload, 1) := by decide +kernel
theorem eX9_copyPlace_40 : decode cX9_copyPlace 40 = .ok (.iastore, 1) := by decide +kernel
theorem eX9_copyPlace_41 : decode cX9_copyPlace 41 = .ok (.aload_n 0, 1) := by decide +kernel
theorem eX9_copyPlace_42 : decode cX9_copyPlace 42 = .ok (.getfield 28, 3) := by decide +kernel
theorem eX9_copyPlace_45 : decode cX9_copyPlace 45 = .ok (.iload_n 3, 1) := by decide +kernel
theorem eX9_copyPlace_46 : decode cX9_copyPlace 46 = .ok (.aload_n 1, 1) := by decide +kernel
theorem eX9_copyPlace_47 : decode cX9_copyPlace 47 = .ok (.getfield 28, 3) := by decide +kernel
theorem eX9_copyPlace_50 : decode cX9_copyPlace 50 = .ok (.iload_n 2, 1) := by decide +kernel
theorem eX9_copyPlace_51 : decode cX9_copyPlace 51 = .ok (.iaload, 1) := by decide +kernel
theorem eX9_copyPlace_52 : decode cX9_copyPlace 52 = .ok (.iastore, 1) := by decide +kernel
theorem eX9_copyPlace_53 : decode cX9_copyPlace 53 = .ok (.aload_n 0, 1) := by decide +kernel
theorem eX9_copyPlace_54 : decode cX9_copyPlace 54 = .ok (.getfield 40, 3) := by decide +kernel
theorem eX9_copyPlace_57 : decode cX9_copyPlace 57 = .ok (.iload_n 3, 1) := by decide +kernel
theorem eX9_copyPlace_58 : decode cX9_copyPlace 58 = .ok (.aload_n 1, 1) := by decide +kernel
theorem eX9_copyPlace_59 : decode cX9_copyPlace 59 = .ok (.getfield 40, 3) := by decide +kernel
theorem eX9_copyPlace_62 : decode cX9_copyPlace 62 = .ok (.iload_n 2, 1) := by decide +kernel
theorem eX9_copyPlace_63 : decode cX9_copyPlace 63 = .ok (.laload, 1) := by decide +kernel
theorem eX9_copyPlace_64 : decode cX9_copyPlace 64 = .ok (.lastore, 1) := by decide +kernel
theorem eX9_copyPlace_65 : decode cX9_copyPlace 65 = .ok (.aload_n 0, 1) := by decide +kernel
theorem eX9_copyPlace_66 : decode cX9_copyPlace 66 = .ok (.getfield 46, 3) := by decide +kernel
theorem eX9_copyPlace_69 : decode cX9_copyPlace 69 = .ok (.iload_n 3, 1) := by decide +kernel
theorem eX9_copyPlace_70 : decode cX9_copyPlace 70 = .ok (.aload_n 1, 1) := by decide +kernel
theorem eX9_copyPlace_71 : decode cX9_copyPlace 71 = .ok (.getfield 46, 3) := by decide +kernel
theorem eX9_copyPlace_74 : decode cX9_copyPlace 74 = .ok (.iload_n 2, 1) := by decide +kernel
theorem eX9_copyPlace_75 : decode cX9_copyPlace 75 = .ok (.iaload, 1) := by decide +kernel
theorem eX9_copyPlace_76 : decode cX9_copyPlace 76 = .ok (.iastore, 1) := by decide +kernel
theorem eX9_copyPlace_77 : decode cX9_copyPlace 77 = .ok (.aload_n 0, 1) := by decide +kernel
theorem eX9_copyPlace_78 : decode cX9_copyPlace 78 = .ok (.getfield 49, 3) := by decide +kernel
theorem eX9_copyPlace_81 : decode cX9_copyPlace 81 = .ok (.iload_n 3, 1) := by decide +kernel
theorem eX9_copyPlace_82 : decode cX9_copyPlace 82 = .ok (.aload_n 1, 1) := by decide +kernel
theorem eX9_copyPlace_83 : decode cX9_copyPlace 83 = .ok (.getfield 49, 3) := by decide +kernel
theorem eX9_copyPlace_86 : decode cX9_copyPlace 86 = .ok (.iload_n 2, 1) := by decide +kernel
theorem eX9_copyPlace_87 : decode cX9_copyPlace 87 = .ok (.iaload, 1) := by decide +kernel
theorem eX9_copyPlace_88 : decode cX9_copyPlace 88 = .ok (.iastore, 1) := by decide +kernel
theorem eX9_copyPlace_89 : decode cX9_copyPlace 89 = .ok (.return_, 1) := by decide +kernel
def C_X9_copyPlace (t : Nat) (o : Nat) (s : ST) (p : Int) (q : Int) (Q : ST → Prop) : Prop := bx <| isT t → isT o → RA s → R32 p → R32 q → q_met mX9_copyPlace (qs layX s) [.ref t, .ref o, .int (Int32.ofInt p), .int (Int32.ofInt q)] (PV layX Q)
theorem C_X9_copyPlace.mono {t : Nat} {o : Nat} {s : ST} {p : Int} {q : Int} {Q Q' : ST → Prop} (h : C_X9_copyPlace t o s p q Q) (hq : ∀ s, Q s → Q' s) : C_X9_copyPlace t o s p q Q' := ⟨fun ht ho hA hrp hrq => q_met.mono (h.1 ht ho hA hrp hrq) (fun _ _ => PV.mono hq), trivial⟩
set_option maxRecDepth 20000 in
theorem s_X9_copyPlace {t : Nat} {o : Nat} {s : ST} {p : Int} {q : Int} {Q : ST → Prop} (h : isT t → isT o → RA s → R32 p → R32 q → ((¬ (¬ p < 0 ∧ (¬ s.1 o 1 ≤ p ∧ ¬ 40 ≤ p)) → Q s) ∧ ((¬ p < 0 ∧ (¬ s.1 o 1 ≤ p ∧ ¬ 40 ≤ p)) → (((¬ q < 0 ∧ (¬ s.1 t 1 ≤ q ∧ ¬ 40 ≤ q)) → (((0 : Int) ≤ p ∧ p < 40) ∧ (((0 : Int) ≤ q ∧ q < 40) ∧ Q (ui (ui (uj (ui (ui (ui s (t + 3) q (s.1 (o + 3) p)) (t + 4) q ((ui s (t + 3) q (s.1 (o + 3) p)).1 (o + 4) p)) (t + 6) q ((ui (ui s (t + 3) q (s.1 (o + 3) p)) (t + 4) q ((ui s (t + 3) q (s.1 (o + 3) p)).1 (o + 4) p)).1 (o + 6) p)) (t + 10) q ((ui (ui (ui s (t + 3) q (s.1 (o + 3) p)) (t + 4) q ((ui s (t + 3) q (s.1 (o + 3) p)).1 (o + 4) p)) (t + 6) q ((ui (ui s (t + 3) q (s.1 (o + 3) p)) (t + 4) q ((ui s (t + 3) q (s.1 (o + 3) p)).1 (o + 4) p)).1 (o + 6) p)).2 (o + 10) p)) (t + 12) q ((uj (ui (ui (ui s (t + 3) q (s.1 (o + 3) p)) (t + 4) q ((ui s (t + 3) q (s.1 (o + 3) p)).1 (o + 4) p)) (t + 6) q ((ui (ui s (t + 3) q (s.1 (o + 3) p)) (t + 4) q ((ui s (t + 3) q (s.1 (o + 3) p)).1 (o + 4) p)).1 (o + 6) p)) (t + 10) q ((ui (ui (ui s (t + 3) q (s.1 (o + 3) p)) (t + 4) q ((ui s (t + 3) q (s.1 (o + 3) p)).1 (o + 4) p)) (t + 6) q ((ui (ui s (t + 3) q (s.1 (o + 3) p)) (t + 4) q ((ui s (t + 3) q (s.1 (o + 3) p)).1 (o + 4) p)).1 (o + 6) p)).2 (o + 10) p)).1 (o + 12) p)) (t + 13) q ((ui (uj (ui (ui (ui s (t + 3) q (s.1 (o + 3) p)) (t + 4) q ((ui s (t + 3) q (s.1 (o + 3) p)).1 (o + 4) p)) (t + 6) q ((ui (ui s (t + 3) q (s.1 (o + 3) p)) (t + 4) q ((ui s (t + 3) q (s.1 (o + 3) p)).1 (o + 4) p)).1 (o + 6) p)) (t + 10) q ((ui (ui (ui s (t + 3) q (s.1 (o + 3) p)) (t + 4) q ((ui s (t + 3) q (s.1 (o + 3) p)).1 (o + 4) p)) (t + 6) q ((ui (ui s (t + 3) q (s.1 (o + 3) p)) (t + 4) q ((ui s (t + 3) q (s.1 (o + 3) p)).1 (o + 4) p)).1 (o + 6) p)).2 (o + 10) p)) (t + 12) q ((uj (ui (ui (ui s (t + 3) q (s.1 (o + 3) p)) (t + 4) q ((ui s (t + 3) q (s.1 (o + 3) p)).1 (o + 4) p)) (t + 6) q ((ui (ui s (t + 3) q (s.1 (o + 3) p)) (t + 4) q ((ui s (t + 3) q (s.1 (o + 3) p)).1 (o + 4) p)).1 (o + 6) p)) (t + 10) q ((ui (ui (ui s (t + 3) q (s.1 (o + 3) p)) (t + 4) q ((ui s (t + 3) q (s.1 (o + 3) p)).1 (o + 4) p)) (t + 6) q ((ui (ui s (t + 3) q (s.1 (o + 3) p)) (t + 4) q ((ui s (t + 3) q (s.1 (o + 3) p)).1 (o + 4) p)).1 (o + 6) p)).2 (o + 10) p)).1 (o + 12) p)).1 (o + 13) p))))) ∧ (¬ (¬ q < 0 ∧ (¬ s.1 t 1 ≤ q ∧ ¬ 40 ≤ q)) → Q s))))) : C_X9_copyPlace t o s p q Q := by
  refine ⟨?_, trivial⟩
  intro ht ho hA hrp hrq
  have h := h ht ho hA hrp hrq
  refine q_enter (by decide) (Nat.le_of_ble_eq_true rfl) ?_
  refine q_aload_n eX9_copyPlace_0 rfl ?_
  refine q_iload_n eX9_copyPlace_1 rfl ?_
  refine q_V1 (ci := 9) (n := 0) eX9_copyPlace_2 DX9_has lX9_71 (tl_0 ho) (by decide) rfl rfl rfl rfl (p_X9_has ho hA hrp) ?_
  rintro _ _ ⟨b1, rfl, rfl⟩
  refine q_iz_eq (tgt := 16) (a := (F_X9_has o s p)) eX9_copyPlace_5 (by decide) (ofz (r01 b1)) (fun c5 => ?_) (fun c5 => ?_)
  · have h := h.1 (fun q => n_X9_has.mpr q c5)
    exact q_ret eX9_copyPlace_16 rfl ⟨_, rfl, hA, rfl, h⟩
  · have h := h.2 (n_X9_has.mp c5)
    refine q_aload_n eX9_copyPlace_8 rfl ?_
    refine q_iload_n eX9_copyPlace_9 rfl ?_
    refine q_V1 (ci := 9) (n := 0) eX9_copyPlace_10 DX9_has lX9_71 (tl_0 ht) (by decide) rfl rfl rfl rfl (p_X9_has ht hA hrq) ?_
    rintro _ _ ⟨b2, rfl, rfl⟩
    refine q_iz_ne (tgt := 17) (a := (F_X9_has t s q)) eX9_copyPlace_13 (by decide) (ofz (r01 b2)) (fun c13 => ?_) (fun c13 => ?_)
    · have h := h.1 (n_X9_has.mp c13)
      refine q_aload_n eX9_copyPlace_17 rfl ?_
      refine q_getR (c := 9) (n := 0) (k := 5) (a := (t + 3)) eX9_copyPlace_18 (tl_0 ht) (by decide) (by decide) fX9_19 rfl (tr_5 ht) ?_
      refine q_iload_n eX9_copyPlace_21 rfl ?_
      refine q_aload_n eX9_copyPlace_22 rfl ?_
      refine q_getR (c := 9) (n := 0) (k := 5) (a := (o + 3)) eX9_copyPlace_23 (tl_0 ho) (by decide) (by decide) fX9_19 rfl (tr_5 ho) ?_
      refine q_iload_n eX9_copyPlace_26 rfl ?_
      have f3 := h.1
      have h := h.2
      refine z_iald (n := 40) eX9_copyPlace_27 (tl_3 ho) (ofz hrp) f3 ?_
      refine q_topI (v := Int32.ofInt (s.1 (o + 3) p)) rfl ?_
      have f4 := h.1
      have h := h.2
      refine z_iast (n := 40) eX9_copyPlace_28 (tl_3 ht) (ofz hrq) f4  ?_
      refine q_aload_n eX9_copyPlace_29 rfl ?_
      refine q_getR (c := 9) (n := 0) (k := 6) (a := (t + 4)) eX9_copyPlace_30 (tl_0 ht) (by decide) (by decide) fX9_22 rfl (tr_6 ht) ?_
      refine q_iload_n eX9_copyPlace_33 rfl ?_
      refine q_aload_n eX9_copyPlace_34 rfl ?_
      refine q_getR (c := 9) (n := 0) (k := 6) (a := (o + 4)) eX9_copyPlace_35 (tl_0 ho) (by decide) (by decide) fX9_22 rfl (tr_6 ho) ?_
      refine q_iload_n eX9_copyPlace_38 rfl ?_
      refine z_iald (n := 40) eX9_copyPlace_39 (tl_4 ho) (ofz hrp) f3 ?_
      refine q_topI (v := Int32.ofInt ((ui s (t + 3) q (s.1 (o + 3) p)).1 (o + 4) p)) rfl ?_
      refine z_iast (n := 40) eX9_copyPlace_40 (tl_4 ht) (ofz hrq) f4  ?_
      refine q_aload_n eX9_copyPlace_41 rfl ?_
      refine q_getR (c := 9) (n := 0) (k := 8) (a := (t + 6)) eX9_copyPlace_42 (tl_0 ht) (by decide) (by decide) fX9_28 rfl (tr_8 ht) ?_
      refine q_iload_n eX9_copyPlace_45 rfl ?_
      refine q_aload_n eX9_copyPlace_46 rfl ?_
      refine q_getR (c := 9) (n := 0) (k := 8) (a := (o + 6)) eX9_copyPlace_47 (tl_0 ho) (by decide) (by decide) fX9_28 rfl (tr_8 ho) ?_
      refine q_iload_n eX9_copyPlace_50 rfl ?_
      refine z_iald (n := 40) eX9_copyPlace_51 (tl_6 ho) (ofz hrp) f3 ?_
      refine q_topI (v := Int32.ofInt ((ui (ui s (t + 3) q (s.1 (o + 3) p)) (t + 4) q ((ui s (t + 3) q (s.1 (o + 3) p)).1 (o + 4) p)).1 (o + 6) p)) rfl ?_
      refine z_iast (n := 40) eX9_copyPlace_52 (tl_6 ht) (ofz hrq) f4  ?_
      refine q_aload_n eX9_copyPlace_53 rfl ?_
      refine q_getR (c := 9) (n := 0) (k := 12) (a := (t + 10)) eX9_copyPlace_54 (tl_0 ht) (by decide) (by decide) fX9_40 rfl (tr_12 ht) ?_
      refine q_iload_n eX9_copyPlace_57 rfl ?_
      refine q_aload_n eX9_copyPlace_58 rfl ?_
      refine q_getR (c := 9) (n := 0) (k := 12) (a := (o + 10)) eX9_copyPlace_59 (tl_0 ho) (by decide) (by decide) fX9_40 rfl (tr_12 ho) ?_
      refine q_iload_n eX9_copyPlace_62 rfl ?_
      refine z_lald (n := 40) eX9_copyPlace_63 (tl_10 ho) (ofz hrp) f3 ?_
      refine q_topL (v := (ui (ui (ui s (t + 3) q (s.1 (o + 3) p)) (t + 4) q ((ui s (t + 3) q (s.1 (o + 3) p)).1 (o + 4) p)) (t + 6) q ((ui (ui s (t + 3) q (s.1 (o + 3) p)) (t + 4) q ((ui s (t + 3) q (s.1 (o + 3) p)).1 (o + 4) p)).1 (o + 6) p)).2 (o + 10) p) rfl ?_
      refine z_last (n := 40) eX9_copyPlace_64 (tl_10 ht) (ofz hrq) f4  ?_
      refine q_aload_n eX9_copyPlace_65 rfl ?_
      refine q_getR (c := 9) (n := 0) (k := 14) (a := (t + 12)) eX9_copyPlace_66 (tl_0 ht) (by decide) (by decide) fX9_46 rfl (tr_14 ht) ?_
      refine q_iload_n eX9_copyPlace_69 rfl ?_
      refine q_aload_n eX9_copyPlace_70 rfl ?_
      refine q_getR (c := 9) (n := 0) (k := 14) (a := (o + 12)) eX9_copyPlace_71 (tl_0 ho) (by decide) (by decide) fX9_46 rfl (tr_14 ho) ?_
      refine q_iload_n eX9_copyPlace_74 rfl ?_
      refine z_iald (n := 40) eX9_copyPlace_75 (tl_12 ho) (ofz hrp) f3 ?_
      refine q_topI (v := Int32.ofInt ((uj (ui (ui (ui s (t + 3) q (s.1 (o + 3) p)) (t + 4) q ((ui s (t + 3) q (s.1 (o + 3) p)).1 (o + 4) p)) (t + 6) q ((ui (ui s (t + 3) q (s.1 (o + 3) p)) (t + 4) q ((ui s (t + 3) q (s.1 (o + 3) p)).1 (o + 4) p)).1 (o + 6) p)) (t + 10) q ((ui (ui (ui s (t + 3) q (s.1 (o + 3) p)) (t + 4) q ((ui s (t + 3) q (s.1 (o + 3) p)).1 (o + 4) p)) (t + 6) q ((ui (ui s (t + 3) q (s.1 (o + 3) p)) (t + 4) q ((ui s (t + 3) q (s.1 (o + 3) p)).1 (o + 4) p)).1 (o + 6) p)).2 (o + 10) p)).1 (o + 12) p)) rfl ?_
      refine z_iast (n := 40) eX9_copyPlace_76 (tl_12 ht) (ofz hrq) f4  ?_
      refine q_aload_n eX9_copyPlace_77 rfl ?_
      refine q_getR (c := 9) (n := 0) (k := 15) (a := (t + 13)) eX9_copyPlace_78 (tl_0 ht) (by decide) (by decide) fX9_49 rfl (tr_15 ht) ?_
      refine q_iload_n eX9_copyPlace_81 rfl ?_
      refine q_aload_n eX9_copyPlace_82 rfl ?_
      refine q_getR (c := 9) (n := 0) (k := 15) (a := (o + 13)) eX9_copyPlace_83 (tl_0 ho) (by decide) (by decide) fX9_49 rfl (tr_15 ho) ?_
      refine q_iload_n eX9_copyPlace_86 rfl ?_
      refine z_iald (n := 40) eX9_copyPlace_87 (tl_13 ho) (ofz hrp) f3 ?_
      refine q_topI (v := Int32.ofInt ((ui (uj (ui (ui (ui s (t + 3) q (s.1 (o + 3) p)) (t + 4) q ((ui s (t + 3) q (s.1 (o + 3) p)).1 (o + 4) p)) (t + 6) q ((ui (ui s (t + 3) q (s.1 (o + 3) p)) (t + 4) q ((ui s (t + 3) q (s.1 (o + 3) p)).1 (o + 4) p)).1 (o + 6) p)) (t + 10) q ((ui (ui (ui s (t + 3) q (s.1 (o + 3) p)) (t + 4) q ((ui s (t + 3) q (s.1 (o + 3) p)).1 (o + 4) p)) (t + 6) q ((ui (ui s (t + 3) q (s.1 (o + 3) p)) (t + 4) q ((ui s (t + 3) q (s.1 (o + 3) p)).1 (o + 4) p)).1 (o + 6) p)).2 (o + 10) p)) (t + 12) q ((uj (ui (ui (ui s (t + 3) q (s.1 (o + 3) p)) (t + 4) q ((ui s (t + 3) q (s.1 (o + 3) p)).1 (o + 4) p)) (t + 6) q ((ui (ui s (t + 3) q (s.1 (o + 3) p)) (t + 4) q ((ui s (t + 3) q (s.1 (o + 3) p)).1 (o + 4) p)).1 (o + 6) p)) (t + 10) q ((ui (ui (ui s (t + 3) q (s.1 (o + 3) p)) (t + 4) q ((ui s (t + 3) q (s.1 (o + 3) p)).1 (o + 4) p)) (t + 6) q ((ui (ui s (t + 3) q (s.1 (o + 3) p)) (t + 4) q ((ui s (t + 3) q (s.1 (o + 3) p)).1 (o + 4) p)).1 (o + 6) p)).2 (o + 10) p)).1 (o + 12) p)).1 (o + 13) p)) rfl ?_
      refine z_iast (n := 40) eX9_copyPlace_88 (tl_13 ht) (ofz hrq) f4  ?_
      exact q_ret eX9_copyPlace_89 rfl ⟨_, rfl, (ra_ui (ra_ui (ra_uj (ra_ui (ra_ui (ra_ui hA (hA _ _)) ((ra_ui hA (hA _ _)) _ _)) ((ra_ui (ra_ui hA (hA _ _)) ((ra_ui hA (hA _ _)) _ _)) _ _))) ((ra_uj (ra_ui (ra_ui (ra_ui hA (hA _ _)) ((ra_ui hA (hA _ _)) _ _)) ((ra_ui (ra_ui hA (hA _ _)) ((ra_ui hA (hA _ _)) _ _)) _ _))) _ _)) ((ra_ui (ra_uj (ra_ui (ra_ui (ra_ui hA (hA _ _)) ((ra_ui hA (hA _ _)) _ _)) ((ra_ui (ra_ui hA (hA _ _)) ((ra_ui hA (hA _ _)) _ _)) _ _))) ((ra_uj (ra_ui (ra_ui (ra_ui hA (hA _ _)) ((ra_ui hA (hA _ _)) _ _)) ((ra_ui (ra_ui hA (hA _ _)) ((ra_ui hA (hA _ _)) _ _)) _ _))) _ _)) _ _)), rfl, h⟩
    · have h := h.2 (fun q => n_X9_has.mpr q c13)
      exact q_ret eX9_copyPlace_16 rfl ⟨_, rfl, hA, rfl, h⟩
theorem eX2_movedTo_0 : decode cX2_movedTo 0 = .ok (.iload_n 1, 1) := by decide +kernel
theorem eX2_movedTo_1 : decode cX2_movedTo 1 = .ok (.ifCond .lt 18, 3) := by decide +kernel
theorem eX2_movedTo_4 : decode cX2_movedTo 4 = .ok (.iload_n 1, 1) := by decide +kernel
theorem eX2_movedTo_5 : decode cX2_movedTo 5 = .ok (.bipush 40, 2) := by decide +kernel
theorem eX2_movedTo_7 : decode cX2_movedTo 7 = .ok (.if_icmp .ge 12, 3) := by decide +kernel
theorem eX2_movedTo_10 : decode cX2_movedTo 10 = .ok (.aload_n 0, 1) := by decide +kernel
theorem eX2_movedTo_11 : decode cX2_movedTo 11 = .ok (.getfield 18, 3) := by decide +kernel
theorem eX2_movedTo_14 : decode cX2_movedTo 14 = .ok (.iload_n 1, 1) := by decide +kernel
theorem eX2_movedTo_15 : decode cX2_movedTo 15 = .ok (.iaload, 1) := by decide +kernel
theorem eX2_movedTo_16 : decode cX2_movedTo 16 = .ok (.goto 4, 3) := by decide +kernel
theorem eX2_movedTo_19 : decode cX2_movedTo 19 = .ok (.iload_n 1, 1) := by decide +kernel
theorem eX2_movedTo_20 : decode cX2_movedTo 20 = .ok (.ireturn, 1) := by decide +kernel
def C_X2_movedTo (s : ST) (p : Int) (Q : ST → Int → Prop) : Prop := bx <| RA s → R32 p → q_met mX2_movedTo (qs layX s) [.ref 17, .int (Int32.ofInt p)] (PI layX Q)
theorem C_X2_movedTo.mono {s : ST} {p : Int} {Q Q' : ST → Int → Prop} (h : C_X2_movedTo s p Q) (hq : ∀ s v, Q s v → Q' s v) : C_X2_movedTo s p Q' := ⟨fun hA hrp => q_met.mono (h.1 hA hrp) (fun _ _ => PI.mono hq), trivial⟩
set_option maxRecDepth 20000 in
theorem s_X2_movedTo {s : ST} {p : Int} {Q : ST → Int → Prop} (h : RA s → R32 p → ((p < 0 → Q s p) ∧ (¬ p < 0 → ((40 ≤ p → Q s p) ∧ (¬ 40 ≤ p → (((0 : Int) ≤ p ∧ p < 40) ∧ Q s (s.1 33 p))))))) : C_X2_movedTo s p Q := by
  refine ⟨?_, trivial⟩
  intro hA hrp
  have h := h hA hrp
  refine q_enter (by decide) (Nat.le_of_ble_eq_true rfl) ?_
  refine q_iload_n eX2_movedTo_0 rfl ?_
  refine q_iz_lt (tgt := 19) (a := p) eX2_movedTo_1 (by decide) (ofz hrp) (fun c1 => ?_) (fun c1 => ?_)
  · have h := h.1 c1
    refine q_iload_n eX2_movedTo_19 rfl ?_
    exact q_iret eX2_movedTo_20 rfl ⟨_, _, rfl, hA, hrp, rfl, h⟩
  · have h := h.2 c1
    refine q_iload_n eX2_movedTo_4 rfl ?_
    refine q_bi (v := Int32.ofInt 40) eX2_movedTo_5 rfl ?_
    refine q_cz_ge (tgt := 19) (a := p) (b := 40) eX2_movedTo_7 (by decide) (ofz hrp) (ofz (r32l rfl)) (fun c7 => ?_) (fun c7 => ?_)
    · have h := h.1 c7
      refine q_iload_n eX2_movedTo_19 rfl ?_
      exact q_iret eX2_movedTo_20 rfl ⟨_, _, rfl, hA, hrp, rfl, h⟩
    · have h := h.2 c7
      refine q_aload_n eX2_movedTo_10 rfl ?_
      refine q_getR (c := 2) (n := 0) (k := 1) (a := 33) eX2_movedTo_11 rfl (by decide) (by decide) fX2_18 rfl rfl ?_
      refine q_iload_n eX2_movedTo_14 rfl ?_
      have f1 := h.1
      have h := h.2
      refine z_iald (n := 40) eX2_movedTo_15 rfl (ofz hrp) f1 ?_
      refine q_topI (v := Int32.ofInt (s.1 33 p)) rfl ?_
      refine q_goto (tgt := 20) eX2_movedTo_16 (by decide) ?_
      exact q_iret eX2_movedTo_20 rfl ⟨_, _, rfl, hA, (hA _ _), rfl, h⟩
def F_X2_movedTo (s : ST) (p : Int) : Int := (if p < 0 then p else (if 40 ≤ p then p else s.1 33 p))
abbrev P_X2_movedTo (s : ST) (p : Int) : Prop := (¬ p < 0 → (¬ 40 ≤ p → ((0 : Int) ≤ p ∧ p < 40)))
theorem w_X2_movedTo {s : ST} {p : Int} (h : P_X2_movedTo s p) : C_X2_movedTo s p (fun s' v => s' = s ∧ v = F_X2_movedTo s p) := by
  refine s_X2_movedTo (fun hA hrp => ?_)
  unfold P_X2_movedTo at h
  refine ⟨fun e0 => ?_, fun e0 => ?_⟩
  · exact ⟨rfl, by unfold F_X2_movedTo; rw [if_pos e0]⟩
  · have h := h e0
    refine ⟨fun e1 => ?_, fun e1 => ?_⟩
    · exact ⟨rfl, by unfold F_X2_movedTo; rw [if_neg e0, if_pos e1]⟩
    · have h := h e1
      refine ⟨h, ?_⟩
      exact ⟨rfl, by unfold F_X2_movedTo; rw [if_neg e0, if_neg e1]⟩
theorem p_X2_movedTo {s : ST} {p : Int} (h : P_X2_movedTo s p) : RA s → R32 p → q_met mX2_movedTo (qs layX s) [.ref 17, .int (Int32.ofInt p)] (fun σ r => R32 (F_X2_movedTo s p) ∧ σ = qs layX s ∧ r = some (.int (Int32.ofInt (F_X2_movedTo s p)))) := fun hA hrp => q_met.mono ((w_X2_movedTo h).1 hA hrp) (by
  rintro _ _ ⟨s1, v1, rfl, h1, h2, rfl, rfl, rfl⟩
  exact ⟨h2, rfl, rfl⟩)
theorem eX2_writePlace_0 : decode cX2_writePlace 0 = .ok (.aload_n 1, 1) := by decide +kernel
theorem eX2_writePlace_1 : decode cX2_writePlace 1 = .ok (.iload_n 2, 1) := by decide +kernel
theorem eX2_writePlace_2 : decode cX2_writePlace 2 = .ok (.invokevirtual 86, 3) := by decide +kernel
theorem eX2_writePlace_5 : decode cX2_writePlace 5 = .ok (.ifCond .eq 14, 3) := by decide +kernel
theorem eX2_writePlace_8 : decode cX2_writePlace 8 = .ok (.aload_n 0, 1) := by decide +kernel
theorem eX2_writePlace_9 : decode cX2_writePlace 9 = .ok (.getfield 12, 3) := by decide +kernel
theorem eX2_writePlace_12 : decode cX2_writePlace 12 = .ok (.iload_n 3, 1) := by decide +kernel
theorem eX2_writePlace_13 : decode cX2_writePlace 13 = .ok (.invokevirtual 86, 3) := by decide +kernel
theorem eX2_writePlace_16 : decode cX2_writePlace 16 = .ok (.ifCond .ne 4, 3) := by decide +kernel
theorem eX2_writePlace_19 : decode cX2_writePlace 19 = .ok (.return_, 1) := by decide +kernel
theorem eX2_writePlace_20 : decode cX2_writePlace 20 = .ok (.aload_n 0, 1) := by decide +kernel
theorem eX2_writePlace_21 : decode cX2_writePlace 21 = .ok (.getfield 18, 3) := by decide +kernel
theorem eX2_writePlace_24 : decode cX2_writePlace 24 = .ok (.iload_n 2, 1) := by decide +kernel
theorem eX2_writePlace_25 : decode cX2_writePlace 25 = .ok (.iload_n 3, 1) := by decide +kernel
theorem eX2_writePlace_26 : decode cX2_writePlace 26 = .ok (.iastore, 1) := by decide +kernel
theorem eX2_writePlace_27 : decode cX2_writePlace 27 = .ok (.aload_n 0, 1) := by decide +kernel
theorem eX2_writePlace_28 : decode cX2_writePlace 28 = .ok (.getfield 12, 3) := by decide +kernel
theorem eX2_writePlace_31 : decode cX2_writePlace 31 = .ok (.aload_n 1, 1) := by decide +kernel
theorem eX2_writePlace_32 : decode cX2_writePlace 32 = .ok (.iload_n 2, 1) := by decide +kernel
theorem eX2_writePlace_33 : decode cX2_writePlace 33 = .ok (.iload_n 3, 1) := by decide +kernel
theorem eX2_writePlace_34 : decode cX2_writePlace 34 = .ok (.invokevirtual 89, 3) := by decide +kernel
theorem eX2_writePlace_37 : decode cX2_writePlace 37 = .ok (.aload_n 0, 1) := by decide +kernel
theorem eX2_writePlace_38 : decode cX2_writePlace 38 = .ok (.getfield 12, 3) := by decide +kernel
theorem eX2_writePlace_41 : decode cX2_writePlace 41 = .ok (.getfield 92, 3) := by decide +kernel
theorem eX2_writePlace_44 : decode cX2_writePlace 44 = .ok (.iload_n 3, 1) := by decide +kernel
theorem eX2_writePlace_45 : decode cX2_writePlace 45 = .ok (.aload_n 0, 1) := by decide +kernel
theorem eX2_writePlace_46 : decode cX2_writePlace 46 = .ok (.aload_n 1, 1) := by decide +kernel
theorem eX2_writePlace_47 : decode cX2_writePlace 47 = .ok (.getfield 92, 3) := by decide +kernel
theorem eX2_writePlace_50 : decode cX2_writePlace 50 = .ok (.iload_n 2, 1) := by decide +kernel
theorem eX2_writePlace_51 : decode cX2_writePlace 51 = .ok (.iaload, 1) := by decide +kernel
theorem eX2_writePlace_52 : decode cX2_writePlace 52 = .ok (.invokevirtual 95, 3) := by decide +kernel
theorem eX2_writePlace_55 : decode cX2_writePlace 55 = .ok (.iastore, 1) := by decide +kernel
theorem eX2_writePlace_56 : decode cX2_writePlace 56 = .ok (.return_, 1) := by decide +kernel
def C_X2_writePlace (o : Nat) (s : ST) (p : Int) (q : Int) (Q : ST → Prop) : Prop := bx <| isT o → RA s → R32 p → R32 q → q_met mX2_writePlace (qs layX s) [.ref 17, .ref o, .int (Int32.ofInt p), .int (Int32.ofInt q)] (PV layX Q)
theorem C_X2_writePlace.mono {o : Nat} {s : ST} {p : Int} {q : Int} {Q Q' : ST → Prop} (h : C_X2_writePlace o s p q Q) (hq : ∀ s, Q s → Q' s) : C_X2_writePlace o s p q Q' := ⟨fun ho hA hrp hrq => q_met.mono (h.1 ho hA hrp hrq) (fun _ _ => PV.mono hq), trivial⟩
set_option maxRecDepth 20000 in
theorem s_X2_writePlace {o : Nat} {s : ST} {p : Int} {q : Int} {Q : ST → Prop} (h : isT o → RA s → R32 p → R32 q → ((¬ (¬ p < 0 ∧ (¬ s.1 o 1 ≤ p ∧ ¬ 40 ≤ p)) → Q s) ∧ ((¬ p < 0 ∧ (¬ s.1 o 1 ≤ p ∧ ¬ 40 ≤ p)) → (((¬ q < 0 ∧ (¬ s.1 18 1 ≤ q ∧ ¬ 40 ≤ q)) → (((0 : Int) ≤ p ∧ p < 40) ∧ (C_X9_copyPlace 18 o (ui s 33 p q) p q (fun s4 => (P_X2_movedTo s4 (s4.1 (o + 11) p) ∧ (((0 : Int) ≤ q ∧ q < 40) ∧ Q (ui s4 29 q (F_X2_movedTo s4 (s4.1 (o + 11) p))))))))) ∧ (¬ (¬ q < 0 ∧ (¬ s.1 18 1 ≤ q ∧ ¬ 40 ≤ q)) → Q s))))) : C_X2_writePlace o s p q Q := by
  refine ⟨?_, trivial⟩
  intro ho hA hrp hrq
  have h := h ho hA hrp hrq
  refine q_enter (by decide) (Nat.le_of_ble_eq_true rfl) ?_
  refine q_aload_n eX2_writePlace_0 rfl ?_
  refine q_iload_n eX2_writePlace_1 rfl ?_
  refine q_V1 (ci := 9) (n := 0) eX2_writePlace_2 DX9_has lX2_86 (tl_0 ho) (by decide) rfl rfl rfl rfl (p_X9_has ho hA hrp) ?_
  rintro _ _ ⟨b1, rfl, rfl⟩
  refine q_iz_eq (tgt := 19) (a := (F_X9_has o s p)) eX2_writePlace_5 (by decide) (ofz (r01 b1)) (fun c5 => ?_) (fun c5 => ?_)
  · have h := h.1 (fun q => n_X9_has.mpr q c5)
    exact q_ret eX2_writePlace_19 rfl ⟨_, rfl, hA, rfl, h⟩
  · have h := h.2 (n_X9_has.mp c5)
    refine q_aload_n eX2_writePlace_8 rfl ?_
    refine q_getR (c := 2) (n := 0) (k := 0) (a := 18) eX2_writePlace_9 rfl (by decide) (by decide) fX2_12 rfl rfl ?_
    refine q_iload_n eX2_writePlace_12 rfl ?_
    refine q_V1 (ci := 9) (n := 0) eX2_writePlace_13 DX9_has lX2_86 rfl (by decide) rfl rfl rfl rfl (p_X9_has (by decide) hA hrq) ?_
    rintro _ _ ⟨b2, rfl, rfl⟩
    refine q_iz_ne (tgt := 20) (a := (F_X9_has 18 s q)) eX2_writePlace_16 (by decide) (ofz (r01 b2)) (fun c16 => ?_) (fun c16 => ?_)
    · have h := h.1 (n_X9_has.mp c16)
      refine q_aload_n eX2_writePlace_20 rfl ?_
      refine q_getR (c := 2) (n := 0) (k := 1) (a := 33) eX2_writePlace_21 rfl (by decide) (by decide) fX2_18 rfl rfl ?_
      refine q_iload_n eX2_writePlace_24 rfl ?_
      refine q_iload_n eX2_writePlace_25 rfl ?_
      have f3 := h.1
      have h := h.2
      refine z_iast (n := 40) eX2_writePlace_26 rfl (ofz hrp) f3  ?_
      refine q_aload_n eX2_writePlace_27 rfl ?_
      refine q_getR (c := 2) (n := 0) (k := 0) (a := 18) eX2_writePlace_28 rfl (by decide) (by decide) fX2_12 rfl rfl ?_
      refine q_aload_n eX2_writePlace_31 rfl ?_
      refine q_iload_n eX2_writePlace_32 rfl ?_
      refine q_iload_n eX2_writePlace_33 rfl ?_
      refine q_V3 (ci := 9) (n := 0) eX2_writePlace_34 DX9_copyPlace lX2_89 rfl (by decide) rfl rfl rfl rfl (h.1 (by decide) ho (ra_ui hA hrq) hrp hrq) ?_
      rintro _ _ ⟨s4, rfl, hA4, rfl, h⟩
      refine q_aload_n eX2_writePlace_37 rfl ?_
      refine q_getR (c := 2) (n := 0) (k := 0) (a := 18) eX2_writePlace_38 rfl (by decide) (by decide) fX2_12 rfl rfl ?_
      refine q_getR (c := 9) (n := 0) (k := 13) (a := 29) eX2_writePlace_41 rfl (by decide) (by decide) fX2_92 rfl rfl ?_
      refine q_iload_n eX2_writePlace_44 rfl ?_
      refine q_aload_n eX2_writePlace_45 rfl ?_
      refine q_aload_n eX2_writePlace_46 rfl ?_
      refine q_getR (c := 9) (n := 0) (k := 13) (a := (o + 11)) eX2_writePlace_47 (tl_0 ho) (by decide) (by decide) fX2_92 rfl (tr_13 ho) ?_
      refine q_iload_n eX2_writePlace_50 rfl ?_
      refine z_iald (n := 40) eX2_writePlace_51 (tl_11 ho) (ofz hrp) f3 ?_
      refine q_topI (v := Int32.ofInt (s4.1 (o + 11) p)) rfl ?_
      have f6 := h.1
      have h := h.2
      refine q_V1 (ci := 2) (n := 0) eX2_writePlace_52 DX2_movedTo lX2_95 rfl (by decide) rfl rfl rfl rfl (p_X2_movedTo f6 hA4 (hA4 _ _)) ?_
      rintro _ _ ⟨r5, rfl, rfl⟩
      have f7 := h.1
      have h := h.2
      refine z_iast (n := 40) eX2_writePlace_55 rfl (ofz hrq) f7  ?_
      exact q_ret eX2_writePlace_56 rfl ⟨_, rfl, (ra_ui hA4 r5), rfl, h⟩
    · have h := h.2 (fun q => n_X9_has.mpr q c16)
      exact q_ret eX2_writePlace_19 rfl ⟨_, rfl, hA, rfl, h⟩
theorem eX2_changePlace_0 : decode cX2_changePlace 0 = .ok (.aload_n 0, 1) := by decide +kernel
theorem eX2_changePlace_1 : decode cX2_changePlace 1 = .ok (.iload_n 2, 1) := by decide +kernel
theorem eX2_changePlace_2 : decode cX2_changePlace 2 = .ok (.invokevirtual 95, 3) := by decide +kernel
theorem eX2_changePlace_5 : decode cX2_changePlace 5 = .ok (.istore 5, 2) := by decide +kernel
theorem eX2_changePlace_7 : decode cX2_changePlace 7 = .ok (.aload_n 0, 1) := by decide +kernel
theorem eX2_changePlace_8 : decode cX2_changePlace 8 = .ok (.getfield 12, 3) := by decide +kernel
theorem eX2_changePlace_11 : decode cX2_changePlace 11 = .ok (.iload 5, 2) := by decide +kernel
theorem eX2_changePlace_13 : decode cX2_changePlace 13 = .ok (.invokevirtual 86, 3) := by decide +kernel
theorem eX2_changePlace_16 : decode cX2_changePlace 16 = .ok (.ifCond .ne 4, 3) := by decide +kernel
theorem eX2_changePlace_19 : decode cX2_changePlace 19 = .ok (.return_, 1) := by decide +kernel
theorem eX2_changePlace_20 : decode cX2_changePlace 20 = .ok (.iload_n 3, 1) := by decide +kernel
theorem eX2_changePlace_21 : decode cX2_changePlace 21 = .ok (.tableswitch 182 1 4 #[31, 84, 109, 134], 31) := by decide +kernel
theorem eX2_changePlace_52 : decode cX2_changePlace 52 = .ok (.iload 4, 2) := by decide +kernel
theorem eX2_changePlace_54 : decode cX2_changePlace 54 = .ok (.ifCond .lt 149, 3) := by decide +kernel
theorem eX2_changePlace_57 : decode cX2_changePlace 57 = .ok (.iload 4, 2) := by decide +kernel
theorem eX2_changePlace_59 : decode cX2_changePlace 59 = .ok (.aload_n 1, 1) := by decide +kernel
theorem eX2_changePlace_60 : decode cX2_changePlace 60 = .ok (.iload_n 2, 1) := by decide +kernel
theorem eX2_changePlace_61 : decode cX2_changePlace 61 = .ok (.aload_n 0, 1) := by decide +kernel
theorem eX2_changePlace_62 : decode cX2_changePlace 62 = .ok (.getfield 22, 3) := by decide +kernel
theorem eX2_changePlace_65 : decode cX2_changePlace 65 = .ok (.invokevirtual 42, 3) := by decide +kernel
theorem eX2_changePlace_68 : decode cX2_changePlace 68 = .ok (.if_icmp .ge 135, 3) := by decide +kernel
theorem eX2_changePlace_71 : decode cX2_changePlace 71 = .ok (.iload 4, 2) := by decide +kernel
theorem eX2_changePlace_73 : decode cX2_changePlace 73 = .ok (.aload_n 0, 1) := by decide +kernel
theorem eX2_changePlace_74 : decode cX2_changePlace 74 = .ok (.getfield 22, 3) := by decide +kernel
theorem eX2_changePlace_77 : decode cX2_changePlace 77 = .ok (.arraylength, 1) := by decide +kernel
theorem eX2_changePlace_78 : decode cX2_changePlace 78 = .ok (.if_icmp .ge 125, 3) := by decide +kernel
theorem eX2_changePlace_81 : decode cX2_changePlace 81 = .ok (.aload_n 0, 1) := by decide +kernel
theorem eX2_changePlace_82 : decode cX2_changePlace 82 = .ok (.getfield 12, 3) := by decide +kernel
theorem eX2_changePlace_85 : decode cX2_changePlace 85 = .ok (.getfield 92, 3) := by decide +kernel
theorem eX2_changePlace_88 : decode cX2_changePlace 88 = .ok (.iload 5, 2) := by decide +kernel
theorem eX2_changePlace_90 : decode cX2_changePlace 90 = .ok (.aload_n 0, 1) := by decide +kernel
theorem eX2_changePlace_91 : decode cX2_changePlace 91 = .ok (.aload_n 0, 1) := by decide +kernel
theorem eX2_changePlace_92 : decode cX2_changePlace 92 = .ok (.getfield 22, 3) := by decide +kernel
theorem eX2_changePlace_95 : decode cX2_changePlace 95 = .ok (.iload 4, 2) := by decide +kernel
theorem eX2_changePlace_97 : decode cX2_changePlace 97 = .ok (.iaload, 1) := by decide +kernel
theorem eX2_changePlace_98 : decode cX2_changePlace 98 = .ok (.invokevirtual 95, 3) := by decide +kernel
theorem eX2_changePlace_101 : decode cX2_changePlace 101 = .ok (.iastore, 1) := by decide +kernel
theorem eX2_changePlace_102 : decode cX2_changePlace 102 = .ok (.goto 101, 3) := by decide +kernel
theorem eX2_changePlace_105 : decode cX2_changePlace 105 = .ok (.aload_n 0, 1) := by decide +kernel
theorem eX2_changePlace_106 : decode cX2_changePlace 106 = .ok (.getfield 12, 3) := by decide +kernel
theorem eX2_changePlace_109 : decode cX2_changePlace 109 = .ok (.getfield 98, 3) := by decide +kernel
theorem eX2_changePlace_112 : decode cX2_changePlace 112 = .ok (.iload 5, 2) := by decide +kernel
theorem eX2_changePlace_114 : decode cX2_changePlace 114 = .ok (.iconst 1, 1) := by decide +kernel
theorem eX2_changePlace_115 : decode cX2_changePlace 115 = .ok (.iastore, 1) := by decide +kernel
theorem eX2_changePlace_116 : decode cX2_changePlace 116 = .ok (.aload_n 0, 1) := by decide +kernel
theorem eX2_changePlace_117 : decode cX2_changePlace 117 = .ok (.getfield 12, 3) := by decide +kernel
theorem eX2_changePlace_120 : decode cX2_changePlace 120 = .ok (.getfield 101, 3) := by decide +kernel
theorem eX2_changePlace_123 : decode cX2_changePlace 123 = .ok (.iload 5, 2) := by decide +kernel
theorem eX2_changePlace_125 : decode cX2_changePlace 125 = .ok (.iconst 1, 1) := by decide +kernel
theorem eX2_changePlace_126 : decode cX2_changePlace 126 = .ok (.iastore, 1) := by decide +kernel
theorem eX2_changePlace_127 : decode cX2_changePlace 127 = .ok (.goto 76, 3) := by decide +kernel
theorem eX2_changePlace_130 : decode cX2_changePlace 130 = .ok (.aload_n 0, 1) := by decide +kernel
theorem eX2_changePlace_131 : decode cX2_changePlace 131 = .ok (.getfield 12, 3) := by decide +kernel
theorem eX2_changePlace_134 : decode cX2_changePlace 134 = .ok (.getfield 98, 3) := by decide +kernel
theorem eX2_changePlace_137 : decode cX2_changePlace 137 = .ok (.iload 5, 2) := by decide +kernel
theorem eX2_changePlace_139 : decode cX2_changePlace 139 = .ok (.iconst 0, 1) := by decide +kernel
theorem eX2_changePlace_140 : decode cX2_changePlace 140 = .ok (.iastore, 1) := by decide +kernel
theorem eX2_changePlace_141 : decode cX2_changePlace 141 = .ok (.aload_n 0, 1) := by decide +kernel
theorem eX2_changePlace_142 : decode cX2_changePlace 142 = .ok (.getfield 12, 3) := by decide +kernel
theorem eX2_changePlace_145 : decode cX2_changePlace 145 = .ok (.getfield 101, 3) := by decide +kernel
theorem eX2_changePlace_148 : decode cX2_changePlace 148 = .ok (.iload 5, 2) := by decide +kernel
theorem eX2_changePlace_150 : decode cX2_changePlace 150 = .ok (.iconst 0, 1) := by decide +kernel
theorem eX2_changePlace_151 : decode cX2_changePlace 151 = .ok (.iastore, 1) := by decide +kernel
theorem eX2_changePlace_152 : decode cX2_changePlace 152 = .ok (.goto 51, 3) := by decide +kernel
theorem eX2_changePlace_155 : decode cX2_changePlace 155 = .ok (.aload_n 0, 1) := by decide +kernel
theorem eX2_changePlace_156 : decode cX2_changePlace 156 = .ok (.getfield 12, 3) := by decide +kernel
theorem eX2_changePlace_159 : decode cX2_changePlace 159 = .ok (.getfield 98, 3) := by decide +kernel
theorem eX2_changePlace_162 : decode cX2_changePlace 162 = .ok (.iload 5, 2) := by decide +kernel
theorem eX2_changePlace_164 : decode cX2_changePlace 164 = .ok (.bipush 10, 2) := by decide +kernel
theorem eX2_changePlace_166 : decode cX2_changePlace 166 = .ok (.iastore, 1) := by decide +kernel
theorem eX2_changePlace_167 : decode cX2_changePlace 167 = .ok (.aload_n 0, 1) := by decide +kernel
theorem eX2_changePlace_168 : decode cX2_changePlace 168 = .ok (.getfield 12, 3) := by decide +kernel
theorem eX2_changePlace_171 : decode cX2_changePlace 171 = .ok (.getfield 104, 3) := by decide +kernel
theorem eX2_changePlace_174 : decode cX2_changePlace 174 = .ok (.iload 5, 2) := by decide +kernel
theorem eX2_changePlace_176 : decode cX2_changePlace 176 = .ok (.iconst 0, 1) := by decide +kernel
theorem eX2_changePlace_177 : decode cX2_changePlace 177 = .ok (.iastore, 1) := by decide +kernel
theorem eX2_changePlace_178 : decode cX2_changePlace 178 = .ok (.aload_n 0, 1) := by decide +kernel
theorem eX2_changePlace_179 : decode cX2_changePlace 179 = .ok (.getfield 12, 3) := by decide +kernel
theorem eX2_changePlace_182 : decode cX2_changePlace 182 = .ok (.getfield 101, 3) := by decide +kernel
theorem eX2_changePlace_185 : decode cX2_changePlace 185 = .ok (.iload 5, 2) := by decide +kernel
theorem eX2_changePlace_187 : decode cX2_changePlace 187 = .ok (.iconst 0, 1) := by decide +kernel
theorem eX2_changePlace_188 : decode cX2_changePlace 188 = .ok (.iastore, 1) := by decide +kernel
theorem eX2_changePlace_189 : decode cX2_changePlace 189 = .ok (.aload_n 0, 1) := by decide +kernel
theorem eX2_changePlace_190 : decode cX2_changePlace 190 = .ok (.getfield 12, 3) := by decide +kernel
theorem eX2_changePlace_193 : decode cX2_changePlace 193 = .ok (.getfield 92, 3) := by decide +kernel
theorem eX2_changePlace_196 : decode cX2_changePlace 196 = .ok (.iload 5, 2) := by decide +kernel
theorem eX2_changePlace_198 : decode cX2_changePlace 198 = .ok (.iconst (-1), 1) := by decide +kernel
theorem eX2_changePlace_199 : decode cX2_changePlace 199 = .ok (.iastore, 1) := by decide +kernel
theorem eX2_changePlace_200 : decode cX2_changePlace 200 = .ok (.goto 3, 3) := by decide +kernel
theorem eX2_changePlace_203 : decode cX2_changePlace 203 = .ok (.return_, 1) := by decide +kernel
def C_X2_changePlace (o : Nat) (s : ST) (p : Int) (q : Int) (u : Int) (Q : ST → Prop) : Prop := bx <| isT o → RA s → R32 p → R32 q → R32 u → q_met mX2_changePlace (qs layX s) [.ref 17, .ref o, .int (Int32.ofInt p), .int (Int32.ofInt q), .int (Int32.ofInt u)] (PV layX Q)
theorem C_X2_changePlace.mono {o : Nat} {s : ST} {p : Int} {q : Int} {u : Int} {Q Q' : ST → Prop} (h : C_X2_changePlace o s p q u Q) (hq : ∀ s, Q s → Q' s) : C_X2_changePlace o s p q u Q' := ⟨fun ho hA hrp hrq hru => q_met.mono (h.1 ho hA hrp hrq hru) (fun _ _ => PV.mono hq), trivial⟩
set_option maxRecDepth 20000 in
theorem s_X2_changePlace {o : Nat} {s : ST} {p : Int} {q : Int} {u : Int} {Q : ST → Prop} (h : isT o → RA s → R32 p → R32 q → R32 u → (P_X2_movedTo s p ∧ (((¬ (F_X2_movedTo s p) < 0 ∧ (¬ s.1 18 1 ≤ (F_X2_movedTo s p) ∧ ¬ 40 ≤ (F_X2_movedTo s p))) → ((q = 1 → ((u < 0 → Q s) ∧ (¬ u < 0 → (C_X9_choicesAt o 34 s p (fun s4 v4 => ((v4 ≤ u → Q s4) ∧ (¬ v4 ≤ u → ((48 ≤ u → Q s4) ∧ (¬ 48 ≤ u → (((0 : Int) ≤ u ∧ u < 48) ∧ (P_X2_movedTo s4 (s4.1 34 u) ∧ (((0 : Int) ≤ (F_X2_movedTo s p) ∧ (F_X2_movedTo s p) < 40) ∧ Q (ui s4 29 (F_X2_movedTo s p) (F_X2_movedTo s4 (s4.1 34 u))))))))))))))) ∧ (q = 2 → (((0 : Int) ≤ (F_X2_movedTo s p) ∧ (F_X2_movedTo s p) < 40) ∧ Q (ui (ui s 21 (F_X2_movedTo s p) 1) 24 (F_X2_movedTo s p) 1))) ∧ (q = 3 → (((0 : Int) ≤ (F_X2_movedTo s p) ∧ (F_X2_movedTo s p) < 40) ∧ Q (ui (ui s 21 (F_X2_movedTo s p) 0) 24 (F_X2_movedTo s p) 0))) ∧ (q = 4 → (((0 : Int) ≤ (F_X2_movedTo s p) ∧ (F_X2_movedTo s p) < 40) ∧ Q (ui (ui (ui (ui s 21 (F_X2_movedTo s p) 10) 22 (F_X2_movedTo s p) 0) 24 (F_X2_movedTo s p) 0) 29 (F_X2_movedTo s p) (-1)))) ∧ ((q < 1 ∨ 4 < q) → Q s))) ∧ (¬ (¬ (F_X2_movedTo s p) < 0 ∧ (¬ s.1 18 1 ≤ (F_X2_movedTo s p) ∧ ¬ 40 ≤ (F_X2_movedTo s p))) → Q s)))) : C_X2_changePlace o s p q u Q := by
  refine ⟨?_, trivial⟩
  intro ho hA hrp hrq hru
  have h := h ho hA hrp hrq hru
  refine q_enter (by decide) (Nat.le_of_ble_eq_true rfl) ?_
  refine q_aload_n eX2_changePlace_0 rfl ?_
  refine q_iload_n eX2_changePlace_1 rfl ?_
  have f2 := h.1
  have h := h.2
  refine q_V1 (ci := 2) (n := 0) eX2_changePlace_2 DX2_movedTo lX2_95 rfl (by decide) rfl rfl rfl rfl (p_X2_movedTo f2 hA hrp) ?_
  rintro _ _ ⟨r1, rfl, rfl⟩
  refine q_istore eX2_changePlace_5 (Nat.le_of_ble_eq_true rfl) ?_
  refine q_aload_n eX2_changePlace_7 rfl ?_
  refine q_getR (c := 2) (n := 0) (k := 0) (a := 18) eX2_changePlace_8 rfl (by decide) (by decide) fX2_12 rfl rfl ?_
  refine q_iload eX2_changePlace_11 rfl ?_
  refine q_V1 (ci := 9) (n := 0) eX2_changePlace_13 DX9_has lX2_86 rfl (by decide) rfl rfl rfl rfl (p_X9_has (by decide) hA r1) ?_
  rintro _ _ ⟨b3, rfl, rfl⟩
  refine q_iz_ne (tgt := 20) (a := (F_X9_has 18 s (F_X2_movedTo s p))) eX2_changePlace_16 (by decide) (ofz (r01 b3)) (fun c16 => ?_) (fun c16 => ?_)
  · have h := h.1 (n_X9_has.mp c16)
    refine q_iload_n eX2_changePlace_20 rfl ?_
    refine q_tab4 52 105 130 155 203 eX2_changePlace_21 rfl rfl (by decide) (z := q) (ofz hrq) (fun c21 => ?_) (fun c21 => ?_) (fun c21 => ?_) (fun c21 => ?_) (fun c21 => ?_)
    · have h := h.1 c21
      refine q_iload eX2_changePlace_52 rfl ?_
      refine q_iz_lt (tgt := 203) (a := u) eX2_changePlace_54 (by decide) (ofz hru) (fun c54 => ?_) (fun c54 => ?_)
      · have h := h.1 c54
        exact q_ret eX2_changePlace_203 rfl ⟨_, rfl, hA, rfl, h⟩
      · have h := h.2 c54
        refine q_iload eX2_changePlace_57 rfl ?_
        refine q_aload_n eX2_changePlace_59 rfl ?_
        refine q_iload_n eX2_changePlace_60 rfl ?_
        refine q_aload_n eX2_changePlace_61 rfl ?_
        refine q_getR (c := 2) (n := 0) (k := 2) (a := 34) eX2_changePlace_62 rfl (by decide) (by decide) fX2_22 rfl rfl ?_
        refine q_V2 (ci := 9) (n := 0) eX2_changePlace_65 DX9_choicesAt lX2_42 (tl_0 ho) (by decide) rfl rfl rfl rfl (h.1 ho (by decide) hA hrp) ?_
        rintro _ _ ⟨s4, v4, rfl, hA4, r4, rfl, h⟩
        refine q_cz_ge (tgt := 203) (a := u) (b := v4) eX2_changePlace_68 (by decide) (ofz hru) (ofz r4) (fun c68 => ?_) (fun c68 => ?_)
        · have h := h.1 c68
          exact q_ret eX2_changePlace_203 rfl ⟨_, rfl, hA4, rfl, h⟩
        · have h := h.2 c68
          refine q_iload eX2_changePlace_71 rfl ?_
          refine q_aload_n eX2_changePlace_73 rfl ?_
          refine q_getR (c := 2) (n := 0) (k := 2) (a := 34) eX2_changePlace_74 rfl (by decide) (by decide) fX2_22 rfl rfl ?_
          refine q_alenz (v := Int32.ofInt 48) eX2_changePlace_77 rfl rfl rfl ?_
          refine q_cz_ge (tgt := 203) (a := u) (b := 48) eX2_changePlace_78 (by decide) (ofz hru) (ofz (r32l rfl)) (fun c78 => ?_) (fun c78 => ?_)
          · have h := h.1 c78
            exact q_ret eX2_changePlace_203 rfl ⟨_, rfl, hA4, rfl, h⟩
          · have h := h.2 c78
            refine q_aload_n eX2_changePlace_81 rfl ?_
            refine q_getR (c := 2) (n := 0) (k := 0) (a := 18) eX2_changePlace_82 rfl (by decide) (by decide) fX2_12 rfl rfl ?_
            refine q_getR (c := 9) (n := 0) (k := 13) (a := 29) eX2_changePlace_85 rfl (by decide) (by decide) fX2_92 rfl rfl ?_
            refine q_iload eX2_changePlace_88 rfl ?_
            refine q_aload_n eX2_changePlace_90 rfl ?_
            refine q_aload_n eX2_changePlace_91 rfl ?_
            refine q_getR (c := 2) (n := 0) (k := 2) (a := 34) eX2_changePlace_92 rfl (by decide) (by decide) fX2_22 rfl rfl ?_
            refine q_iload eX2_changePlace_95 rfl ?_
            have f5 := h.1
            have h := h.2
            refine z_iald (n := 48) eX2_changePlace_97 rfl (ofz hru) f5 ?_
            refine q_topI (v := Int32.ofInt (s4.1 34 u)) rfl ?_
            have f7 := h.1
            have h := h.2
            refine q_V1 (ci := 2) (n := 0) eX2_changePlace_98 DX2_movedTo lX2_95 rfl (by decide) rfl rfl rfl rfl (p_X2_movedTo f7 hA4 (hA4 _ _)) ?_
            rintro _ _ ⟨r6, rfl, rfl⟩
            have f8 := h.1
            have h := h.2
            refine z_iast (n := 40) eX2_changePlace_101 rfl (ofz r1) f8  ?_
            refine q_goto (tgt := 203) eX2_changePlace_102 (by decide) ?_
            exact q_ret eX2_changePlace_203 rfl ⟨_, rfl, (ra_ui hA4 r6), rfl, h⟩
    · have h := h.2.1 c21
      refine q_aload_n eX2_changePlace_105 rfl ?_
      refine q_getR (c := 2) (n := 0) (k := 0) (a := 18) eX2_changePlace_106 rfl (by decide) (by decide) fX2_12 rfl rfl ?_
      refine q_getR (c := 9) (n := 0) (k := 5) (a := 21) eX2_changePlace_109 rfl (by decide) (by decide) fX2_98 rfl rfl ?_
      refine q_iload eX2_changePlace_112 rfl ?_
      refine q_ic (v := Int32.ofInt 1) eX2_changePlace_114 rfl ?_
      have f9 := h.1
      have h := h.2
      refine z_iast (n := 40) eX2_changePlace_115 rfl (ofz r1) f9  ?_
      refine q_aload_n eX2_changePlace_116 rfl ?_
      refine q_getR (c := 2) (n := 0) (k := 0) (a := 18) eX2_changePlace_117 rfl (by decide) (by decide) fX2_12 rfl rfl ?_
      refine q_getR (c := 9) (n := 0) (k := 8) (a := 24) eX2_changePlace_120 rfl (by decide) (by decide) fX2_101 rfl rfl ?_
      refine q_iload eX2_changePlace_123 rfl ?_
      refine q_ic (v := Int32.ofInt 1) eX2_changePlace_125 rfl ?_
      refine z_iast (n := 40) eX2_changePlace_126 rfl (ofz r1) f9  ?_
      refine q_goto (tgt := 203) eX2_changePlace_127 (by decide) ?_
      exact q_ret eX2_changePlace_203 rfl ⟨_, rfl, (ra_ui (ra_ui hA (r32l rfl)) (r32l rfl)), rfl, h⟩
    · have h := h.2.2.1 c21
      refine q_aload_n eX2_changePlace_130 rfl ?_
      refine q_getR (c := 2) (n := 0) (k := 0) (a := 18) eX2_changePlace_131 rfl (by decide) (by decide) fX2_12 rfl rfl ?_
      refine q_getR (c := 9) (n := 0) (k := 5) (a := 21) eX2_changePlace_134 rfl (by decide) (by decide) fX2_98 rfl rfl ?_
      refine q_iload eX2_changePlace_137 rfl ?_
      refine q_ic (v := Int32.ofInt 0) eX2_changePlace_139 rfl ?_
      have f10 := h.1
      have h := h.2
      refine z_iast (n := 40) eX2_changePlace_140 rfl (ofz r1) f10  ?_
      refine q_aload_n eX2_changePlace_141 rfl ?_
      refine q_getR (c := 2) (n := 0) (k := 0) (a := 18) eX2_changePlace_142 rfl (by decide) (by decide) fX2_12 rfl rfl ?_
      refine q_getR (c := 9) (n := 0) (k := 8) (a := 24) eX2_changePlace_145 rfl (by decide) (by decide) fX2_101 rfl rfl ?_
      refine q_iload eX2_changePlace_148 rfl ?_
      refine q_ic (v := Int32.ofInt 0) eX2_changePlace_150 rfl ?_
      refine z_iast (n := 40) eX2_changePlace_151 rfl (ofz r1) f10  ?_
      refine q_goto (tgt := 203) eX2_changePlace_152 (by decide) ?_
      exact q_ret eX2_changePlace_203 rfl ⟨_, rfl, (ra_ui (ra_ui hA (r32l rfl)) (r32l rfl)), rfl, h⟩
    · have h := h.2.2.2.1 c21
      refine q_aload_n eX2_changePlace_155 rfl ?_
      refine q_getR (c := 2) (n := 0) (k := 0) (a := 18) eX2_changePlace_156 rfl (by decide) (by decide) fX2_12 rfl rfl ?_
      refine q_getR (c := 9) (n := 0) (k := 5) (a := 21) eX2_changePlace_159 rfl (by decide) (by decide) fX2_98 rfl rfl ?_
      refine q_iload eX2_changePlace_162 rfl ?_
      refine q_bi (v := Int32.ofInt 10) eX2_changePlace_164 rfl ?_
      have f11 := h.1
      have h := h.2
      refine z_iast (n := 40) eX2_changePlace_166 rfl (ofz r1) f11  ?_
      refine q_aload_n eX2_changePlace_167 rfl ?_
      refine q_getR (c := 2) (n := 0) (k := 0) (a := 18) eX2_changePlace_168 rfl (by decide) (by decide) fX2_12 rfl rfl ?_
      refine q_getR (c := 9) (n := 0) (k := 6) (a := 22) eX2_changePlace_171 rfl (by decide) (by decide) fX2_104 rfl rfl ?_
      refine q_iload eX2_changePlace_174 rfl ?_
      refine q_ic (v := Int32.ofInt 0) eX2_changePlace_176 rfl ?_
      refine z_iast (n := 40) eX2_changePlace_177 rfl (ofz r1) f11  ?_
      refine q_aload_n eX2_changePlace_178 rfl ?_
      refine q_getR (c := 2) (n := 0) (k := 0) (a := 18) eX2_changePlace_179 rfl (by decide) (by decide) fX2_12 rfl rfl ?_
      refine q_getR (c := 9) (n := 0) (k := 8) (a := 24) eX2_changePlace_182 rfl (by decide) (by decide) fX2_101 rfl rfl ?_
      refine q_iload eX2_changePlace_185 rfl ?_
      refine q_ic (v := Int32.ofInt 0) eX2_changePlace_187 rfl ?_
      refine z_iast (n := 40) eX2_changePlace_188 rfl (ofz r1) f11  ?_
      refine q_aload_n eX2_changePlace_189 rfl ?_
      refine q_getR (c := 2) (n := 0) (k := 0) (a := 18) eX2_changePlace_190 rfl (by decide) (by decide) fX2_12 rfl rfl ?_
      refine q_getR (c := 9) (n := 0) (k := 13) (a := 29) eX2_changePlace_193 rfl (by decide) (by decide) fX2_92 rfl rfl ?_
      refine q_iload eX2_changePlace_196 rfl ?_
      refine q_ic (v := Int32.ofInt (-1)) eX2_changePlace_198 rfl ?_
      refine z_iast (n := 40) eX2_changePlace_199 rfl (ofz r1) f11  ?_
      refine q_goto (tgt := 203) eX2_changePlace_200 (by decide) ?_
      exact q_ret eX2_changePlace_203 rfl ⟨_, rfl, (ra_ui (ra_ui (ra_ui (ra_ui hA (r32l rfl)) (r32l rfl)) (r32l rfl)) (r32l rfl)), rfl, h⟩
    · have h := h.2.2.2.2 c21
      exact q_ret eX2_changePlace_203 rfl ⟨_, rfl, hA, rfl, h⟩
  · have h := h.2 (fun q => n_X9_has.mpr q c16)
    exact q_ret eX2_changePlace_19 rfl ⟨_, rfl, hA, rfl, h⟩
theorem eX2_pileKids_0 : decode cX2_pileKids 0 = .ok (.iload_n 3, 1) := by decide +kernel
theorem eX2_pileKids_1 : decode cX2_pileKids 1 = .ok (.iconst 4, 1) := by decide +kernel
theorem eX2_pileKids_2 : decode cX2_pileKids 2 = .ok (.if_icmp .ne 4, 3) := by decide +kernel
theorem eX2_pileKids_5 : decode cX2_pileKids 5 = .ok (.return_, 1) := by decide +kernel
theorem eX2_pileKids_6 : decode cX2_pileKids 6 = .ok (.aload_n 1, 1) := by decide +kernel
theorem eX2_pileKids_7 : decode cX2_pileKids 7 = .ok (.iload_n 2, 1) := by decide +kernel
theorem eX2_pileKids_8 : decode cX2_pileKids 8 = .ok (.invokevirtual 107, 3) := by decide +kernel
theorem eX2_pileKids_11 : decode cX2_pileKids 11 = .ok (.istore 4, 2) := by decide +kernel
theorem eX2_pileKids_13 : decode cX2_pileKids 13 = .ok (.iload 4, 2) := by decide +kernel
theorem eX2_pileKids_15 : decode cX2_pileKids 15 = .ok (.iconst 1, 1) := by decide +kernel
theorem eX2_pileKids_16 : decode cX2_pileKids 16 = .ok (.isub, 1) := by decide +kernel
theorem eX2_pileKids_17 : decode cX2_pileKids 17 = .ok (.istore 5, 2) := by decide +kernel
theorem eX2_pileKids_19 : decode cX2_pileKids 19 = .ok (.iload 5, 2) := by decide +kernel
theorem eX2_pileKids_21 : decode cX2_pileKids 21 = .ok (.ifCond .lt 55, 3) := by decide +kernel
theorem eX2_pileKids_24 : decode cX2_pileKids 24 = .ok (.iload 5, 2) := by decide +kernel
theorem eX2_pileKids_26 : decode cX2_pileKids 26 = .ok (.istore 6, 2) := by decide +kernel
theorem eX2_pileKids_28 : decode cX2_pileKids 28 = .ok (.iload_n 3, 1) := by decide +kernel
theorem eX2_pileKids_29 : decode cX2_pileKids 29 = .ok (.ifCond .ne 23, 3) := by decide +kernel
theorem eX2_pileKids_32 : decode cX2_pileKids 32 = .ok (.iload 5, 2) := by decide +kernel
theorem eX2_pileKids_34 : decode cX2_pileKids 34 = .ok (.iload 4, 2) := by decide +kernel
theorem eX2_pileKids_36 : decode cX2_pileKids 36 = .ok (.iconst 2, 1) := by decide +kernel
theorem eX2_pileKids_37 : decode cX2_pileKids 37 = .ok (.isub, 1) := by decide +kernel
theorem eX2_pileKids_38 : decode cX2_pileKids 38 = .ok (.if_icmp .lt 14, 3) := by decide +kernel
theorem eX2_pileKids_41 : decode cX2_pileKids 41 = .ok (.iconst 2, 1) := by decide +kernel
theorem eX2_pileKids_42 : decode cX2_pileKids 42 = .ok (.iload 4, 2) := by decide +kernel
theorem eX2_pileKids_44 : decode cX2_pileKids 44 = .ok (.imul, 1) := by decide +kernel
theorem eX2_pileKids_45 : decode cX2_pileKids 45 = .ok (.iconst 3, 1) := by decide +kernel
theorem eX2_pileKids_46 : decode cX2_pileKids 46 = .ok (.isub, 1) := by decide +kernel
theorem eX2_pileKids_47 : decode cX2_pileKids 47 = .ok (.iload 5, 2) := by decide +kernel
theorem eX2_pileKids_49 : decode cX2_pileKids 49 = .ok (.isub, 1) := by decide +kernel
theorem eX2_pileKids_50 : decode cX2_pileKids 50 = .ok (.istore 6, 2) := by decide +kernel
theorem eX2_pileKids_52 : decode cX2_pileKids 52 = .ok (.aload_n 0, 1) := by decide +kernel
theorem eX2_pileKids_53 : decode cX2_pileKids 53 = .ok (.aload_n 1, 1) := by decide +kernel
theorem eX2_pileKids_54 : decode cX2_pileKids 54 = .ok (.iload_n 2, 1) := by decide +kernel
theorem eX2_pileKids_55 : decode cX2_pileKids 55 = .ok (.iload 6, 2) := by decide +kernel
theorem eX2_pileKids_57 : decode cX2_pileKids 57 = .ok (.invokevirtual 110, 3) := by decide +kernel
theorem eX2_pileKids_60 : decode cX2_pileKids 60 = .ok (.aload_n 0, 1) := by decide +kernel
theorem eX2_pileKids_61 : decode cX2_pileKids 61 = .ok (.iload_n 2, 1) := by decide +kernel
theorem eX2_pileKids_62 : decode cX2_pileKids 62 = .ok (.invokevirtual 95, 3) := by decide +kernel
theorem eX2_pileKids_65 : decode cX2_pileKids 65 = .ok (.iload 5, 2) := by decide +kernel
theorem eX2_pileKids_67 : decode cX2_pileKids 67 = .ok (.invokevirtual 67, 3) := by decide +kernel
theorem eX2_pileKids_70 : decode cX2_pileKids 70 = .ok (.iinc 5 (-1), 3) := by decide +kernel
theorem eX2_pileKids_73 : decode cX2_pileKids 73 = .ok (.goto (-54), 3) := by decide +kernel
theorem eX2_pileKids_76 : decode cX2_pileKids 76 = .ok (.return_, 1) := by decide +kernel
def C_X2_pileKids (o : Nat) (s : ST) (p : Int) (q : Int) (Q : ST → Prop) : Prop := bx <| isT o → RA s → R32 p → R32 q → q_met mX2_pileKids (qs layX s) [.ref 17, .ref o, .int (Int32.ofInt p), .int (Int32.ofInt q)] (PV layX Q)
theorem C_X2_pileKids.mono {o : Nat} {s : ST} {p : Int} {q : Int} {Q Q' : ST → Prop} (h : C_X2_pileKids o s p q Q) (hq : ∀ s, Q s → Q' s) : C_X2_pileKids o s p q Q' := ⟨fun ho hA hrp hrq => q_met.mono (h.1 ho hA hrp hrq) (fun _ _ => PV.mono hq), trivial⟩
def K_X2_pileKids_52 (o : Nat) (s : ST) (a2 : Int) (a3 : Int) (a4 : Int) (a5 : Int) (a6 : Int) (Q : ST → Prop) : Prop := bx <| isT o → RA s → R32 a2 → R32 a3 → R32 a4 → R32 a5 → R32 a6 → q_K mX2_pileKids (qs layX s) 0 0 52 [(0, .ref 17), (1, .ref o), (2, .int (Int32.ofInt a2)), (3, .int (Int32.ofInt a3)), (4, .int (Int32.ofInt a4)), (5, .int (Int32.ofInt a5)), (6, .int (Int32.ofInt a6))] [] (q_fin mX2_pileKids (PV layX Q))
def K_X2_pileKids_19 (o : Nat) (s : ST) (a2 : Int) (a3 : Int) (a4 : Int) (a5 : Int) (Q : ST → Prop) : Prop := bx <| isT o → RA s → R32 a2 → R32 a3 → R32 a4 → R32 a5 → q_K mX2_pileKids (qs layX s) 0 0 19 [(0, .ref 17), (1, .ref o), (2, .int (Int32.ofInt a2)), (3, .int (Int32.ofInt a3)), (4, .int (Int32.ofInt a4)), (5, .int (Int32.ofInt a5))] [] (q_fin mX2_pileKids (PV layX Q))
set_option maxRecDepth 20000 in
theorem s_X2_pileKids_52 {o : Nat} {s : ST} {a2 : Int} {a3 : Int} {a4 : Int} {a5 : Int} {a6 : Int} {Q : ST → Prop} (h : isT o → RA s → R32 a2 → R32 a3 → R32 a4 → R32 a5 → R32 a6 → (P_X9_kidOf o s a2 a6 ∧ (P_X2_movedTo s a2 ∧ (C_X2_pileUp s (F_X9_kidOf o s a2 a6) (F_X2_movedTo s a2) a5 (fun s5 => (R32 (a5 - 1) ∧ K_X2_pileKids_19 o s5 a2 a3 a4 (a5 - 1) Q)))))) : K_X2_pileKids_52 o s a2 a3 a4 a5 a6 Q := by
  refine ⟨?_, trivial⟩
  intro ho hA hra2 hra3 hra4 hra5 hra6
  have h := h ho hA hra2 hra3 hra4 hra5 hra6
  refine q_aload_n eX2_pileKids_52 rfl ?_
  refine q_aload_n eX2_pileKids_53 rfl ?_
  refine q_iload_n eX2_pileKids_54 rfl ?_
  refine q_iload eX2_pileKids_55 rfl ?_
  have f2 := h.1
  have h := h.2
  refine q_V2 (ci := 9) (n := 0) eX2_pileKids_57 DX9_kidOf lX2_110 (tl_0 ho) (by decide) rfl rfl rfl rfl (p_X9_kidOf f2 ho hA hra2 hra6) ?_
  rintro _ _ ⟨r1, rfl, rfl⟩
  refine q_aload_n eX2_pileKids_60 rfl ?_
  refine q_iload_n eX2_pileKids_61 rfl ?_
  have f4 := h.1
  have h := h.2
  refine q_V1 (ci := 2) (n := 0) eX2_pileKids_62 DX2_movedTo lX2_95 rfl (by decide) rfl rfl rfl rfl (p_X2_movedTo f4 hA hra2) ?_
  rintro _ _ ⟨r3, rfl, rfl⟩
  refine q_iload eX2_pileKids_65 rfl ?_
  refine q_V3 (ci := 2) (n := 0) eX2_pileKids_67 DX2_pileUp lX2_67 rfl (by decide) rfl rfl rfl rfl (h.1 hA r1 r3 hra5) ?_
  rintro _ _ ⟨s5, rfl, hA5, rfl, h⟩
  have r6 := h.1
  have h := h.2
  refine z_incN (m := 1) eX2_pileKids_70 rfl (Nat.le_of_ble_eq_true rfl) rfl ?_
  refine q_goto (tgt := 19) eX2_pileKids_73 (by decide) ?_
  exact q_subL rfl (h.1 ho hA5 hra2 hra3 hra4 r6)
set_option maxRecDepth 20000 in
theorem s_X2_pileKids_19 {o : Nat} {s : ST} {a2 : Int} {a3 : Int} {a4 : Int} {a5 : Int} {Q : ST → Prop} (h : isT o → RA s → R32 a2 → R32 a3 → R32 a4 → R32 a5 → ((a5 < 0 → Q s) ∧ (¬ a5 < 0 → ((¬ a3 = 0 → K_X2_pileKids_52 o s a2 a3 a4 a5 a5 Q) ∧ (a3 = 0 → (R32 (a4 - 2) ∧ ((a5 < (a4 - 2) → K_X2_pileKids_52 o s a2 a3 a4 a5 a5 Q) ∧ (¬ a5 < (a4 - 2) → (R32 (2 * a4) ∧ (R32 ((2 * a4) - 3) ∧ (R32 (((2 * a4) - 3) - a5) ∧ K_X2_pileKids_52 o s a2 a3 a4 a5 (((2 * a4) - 3) - a5) Q))))))))))) : K_X2_pileKids_19 o s a2 a3 a4 a5 Q := by
  refine ⟨?_, trivial⟩
  intro ho hA hra2 hra3 hra4 hra5
  have h := h ho hA hra2 hra3 hra4 hra5
  refine q_iload eX2_pileKids_19 rfl ?_
  refine q_iz_lt (tgt := 76) (a := a5) eX2_pileKids_21 (by decide) (ofz hra5) (fun c21 => ?_) (fun c21 => ?_)
  · have h := h.1 c21
    exact q_ret eX2_pileKids_76 rfl ⟨_, rfl, hA, rfl, h⟩
  · have h := h.2 c21
    refine q_iload eX2_pileKids_24 rfl ?_
    refine q_istore eX2_pileKids_26 (Nat.le_of_ble_eq_true rfl) ?_
    refine q_iload_n eX2_pileKids_28 rfl ?_
    refine q_iz_ne (tgt := 52) (a := a3) eX2_pileKids_29 (by decide) (ofz hra3) (fun c29 => ?_) (fun c29 => ?_)
    · have h := h.1 c29
      exact q_subL rfl (h.1 ho hA hra2 hra3 hra4 hra5 hra5)
    · have h := h.2 c29
      refine q_iload eX2_pileKids_32 rfl ?_
      refine q_iload eX2_pileKids_34 rfl ?_
      refine q_ic (v := Int32.ofInt 2) eX2_pileKids_36 rfl ?_
      refine z_isub eX2_pileKids_37 ?_
      have r1 := h.1
      have h := h.2
      refine q_cz_lt (tgt := 52) (a := a5) (b := (a4 - 2)) eX2_pileKids_38 (by decide) (ofz hra5) (ofz r1) (fun c38 => ?_) (fun c38 => ?_)
      · have h := h.1 c38
        exact q_subL rfl (h.1 ho hA hra2 hra3 hra4 hra5 hra5)
      · have h := h.2 c38
        refine q_ic (v := Int32.ofInt 2) eX2_pileKids_41 rfl ?_
        refine q_iload eX2_pileKids_42 rfl ?_
        refine z_imul eX2_pileKids_44 ?_
        have r2 := h.1
        have h := h.2
        refine q_ic (v := Int32.ofInt 3) eX2_pileKids_45 rfl ?_
        refine z_isub eX2_pileKids_46 ?_
        have r3 := h.1
        have h := h.2
        refine q_iload eX2_pileKids_47 rfl ?_
        refine z_isub eX2_pileKids_49 ?_
        have r4 := h.1
        have h := h.2
        refine q_istore eX2_pileKids_50 (Nat.le_of_ble_eq_true rfl) ?_
        exact q_subL rfl (h.1 ho hA hra2 hra3 hra4 hra5 r4)
set_option maxRecDepth 20000 in
theorem s_X2_pileKids {o : Nat} {s : ST} {p : Int} {q : Int} {Q : ST → Prop} (h : isT o → RA s → R32 p → R32 q → ((¬ q = 4 → (P_X9_arityOf o s p ∧ (R32 ((F_X9_arityOf o s p) - 1) ∧ K_X2_pileKids_19 o s p q (F_X9_arityOf o s p) ((F_X9_arityOf o s p) - 1) Q))) ∧ (q = 4 → Q s))) : C_X2_pileKids o s p q Q := by
  refine ⟨?_, trivial⟩
  intro ho hA hrp hrq
  have h := h ho hA hrp hrq
  refine q_enter (by decide) (Nat.le_of_ble_eq_true rfl) ?_
  refine q_iload_n eX2_pileKids_0 rfl ?_
  refine q_ic (v := Int32.ofInt 4) eX2_pileKids_1 rfl ?_
  refine q_cz_ne (tgt := 6) (a := q) (b := 4) eX2_pileKids_2 (by decide) (ofz hrq) (ofz (r32l rfl)) (fun c2 => ?_) (fun c2 => ?_)
  · have h := h.1 c2
    refine q_aload_n eX2_pileKids_6 rfl ?_
    refine q_iload_n eX2_pileKids_7 rfl ?_
    have f2 := h.1
    have h := h.2
    refine q_V1 (ci := 9) (n := 0) eX2_pileKids_8 DX9_arityOf lX2_107 (tl_0 ho) (by decide) rfl rfl rfl rfl (p_X9_arityOf f2 ho hA hrp) ?_
    rintro _ _ ⟨r1, rfl, rfl⟩
    refine q_istore eX2_pileKids_11 (Nat.le_of_ble_eq_true rfl) ?_
    refine q_iload eX2_pileKids_13 rfl ?_
    refine q_ic (v := Int32.ofInt 1) eX2_pileKids_15 rfl ?_
    refine z_isub eX2_pileKids_16 ?_
    have r3 := h.1
    have h := h.2
    refine q_istore eX2_pileKids_17 (Nat.le_of_ble_eq_true rfl) ?_
    exact q_subL rfl (h.1 ho hA hrp hrq r1 r3)
  · have h := h.2 c2
    exact q_ret eX2_pileKids_5 rfl ⟨_, rfl, hA, rfl, h⟩
theorem eX2_write_0 : decode cX2_write 0 = .ok (.aload_n 0, 1) := by decide +kernel
theorem eX2_write_1 : decode cX2_write 1 = .ok (.getfield 12, 3) := by decide +kernel
theorem eX2_write_4 : decode cX2_write 4 = .ok (.invokevirtual 46, 3) := by decide +kernel
theorem eX2_write_7 : decode cX2_write 7 = .ok (.aload_n 0, 1) := by decide +kernel
theorem eX2_write_8 : decode cX2_write 8 = .ok (.getfield 12, 3) := by decide +kernel
theorem eX2_write_11 : decode cX2_write 11 = .ok (.aload_n 1, 1) := by decide +kernel
theorem eX2_write_12 : decode cX2_write 12 = .ok (.invokevirtual 49, 3) := by decide +kernel
theorem eX2_write_15 : decode cX2_write 15 = .ok (.aload_n 0, 1) := by decide +kernel
theorem eX2_write_16 : decode cX2_write 16 = .ok (.iconst 0, 1) := by decide +kernel
theorem eX2_write_17 : decode cX2_write 17 = .ok (.putfield 53, 3) := by decide +kernel
theorem eX2_write_20 : decode cX2_write 20 = .ok (.iconst 0, 1) := by decide +kernel
theorem eX2_write_21 : decode cX2_write 21 = .ok (.istore 5, 2) := by decide +kernel
theorem eX2_write_23 : decode cX2_write 23 = .ok (.iload 5, 2) := by decide +kernel
theorem eX2_write_25 : decode cX2_write 25 = .ok (.aload_n 1, 1) := by decide +kernel
theorem eX2_write_26 : decode cX2_write 26 = .ok (.getfield 57, 3) := by decide +kernel
theorem eX2_write_29 : decode cX2_write 29 = .ok (.if_icmp .ge 174, 3) := by decide +kernel
theorem eX2_write_32 : decode cX2_write 32 = .ok (.iload 5, 2) := by decide +kernel
theorem eX2_write_34 : decode cX2_write 34 = .ok (.bipush 8, 2) := by decide +kernel
theorem eX2_write_36 : decode cX2_write 36 = .ok (.if_icmp .ge 167, 3) := by decide +kernel
theorem eX2_write_39 : decode cX2_write 39 = .ok (.aload_n 0, 1) := by decide +kernel
theorem eX2_write_40 : decode cX2_write 40 = .ok (.getfield 12, 3) := by decide +kernel
theorem eX2_write_43 : decode cX2_write 43 = .ok (.getfield 60, 3) := by decide +kernel
theorem eX2_write_46 : decode cX2_write 46 = .ok (.iload 5, 2) := by decide +kernel
theorem eX2_write_48 : decode cX2_write 48 = .ok (.aload_n 1, 1) := by decide +kernel
theorem eX2_write_49 : decode cX2_write 49 = .ok (.getfield 60, 3) := by decide +kernel
theorem eX2_write_52 : decode cX2_write 52 = .ok (.iload 5, 2) := by decide +kernel
theorem eX2_write_54 : decode cX2_write 54 = .ok (.laload, 1) := by decide +kernel
theorem eX2_write_55 : decode cX2_write 55 = .ok (.lastore, 1) := by decide +kernel
theorem eX2_write_56 : decode cX2_write 56 = .ok (.aload_n 0, 1) := by decide +kernel
theorem eX2_write_57 : decode cX2_write 57 = .ok (.getfield 12, 3) := by decide +kernel
theorem eX2_write_60 : decode cX2_write 60 = .ok (.dup, 1) := by decide +kernel
theorem eX2_write_61 : decode cX2_write 61 = .ok (.getfield 57, 3) := by decide +kernel
theorem eX2_write_64 : decode cX2_write 64 = .ok (.iconst 1, 1) := by decide +kernel
theorem eX2_write_65 : decode cX2_write 65 = .ok (.iadd, 1) := by decide +kernel
theorem eX2_write_66 : decode cX2_write 66 = .ok (.putfield 57, 3) := by decide +kernel
theorem eX2_write_69 : decode cX2_write 69 = .ok (.aload_n 0, 1) := by decide +kernel
theorem eX2_write_70 : decode cX2_write 70 = .ok (.aload_n 1, 1) := by decide +kernel
theorem eX2_write_71 : decode cX2_write 71 = .ok (.iload 5, 2) := by decide +kernel
theorem eX2_write_73 : decode cX2_write 73 = .ok (.invokevirtual 64, 3) := by decide +kernel
theorem eX2_write_76 : decode cX2_write 76 = .ok (.iconst (-1), 1) := by decide +kernel
theorem eX2_write_77 : decode cX2_write 77 = .ok (.iconst 0, 1) := by decide +kernel
theorem eX2_write_78 : decode cX2_write 78 = .ok (.invokevirtual 67, 3) := by decide +kernel
theorem eX2_write_81 : decode cX2_write 81 = .ok (.iconst 0, 1) := by decide +kernel
theorem eX2_write_82 : decode cX2_write 82 = .ok (.istore 6, 2) := by decide +kernel
theorem eX2_write_84 : decode cX2_write 84 = .ok (.iload 6, 2) := by decide +kernel
theorem eX2_write_86 : decode cX2_write 86 = .ok (.bipush 40, 2) := by decide +kernel
theorem eX2_write_88 : decode cX2_write 88 = .ok (.if_icmp .gt 109, 3) := by decide +kernel
theorem eX2_write_91 : decode cX2_write 91 = .ok (.aload_n 0, 1) := by decide +kernel
theorem eX2_write_92 : decode cX2_write 92 = .ok (.getfield 53, 3) := by decide +kernel
theorem eX2_write_95 : decode cX2_write 95 = .ok (.ifCond .le 102, 3) := by decide +kernel
theorem eX2_write_98 : decode cX2_write 98 = .ok (.aload_n 0, 1) := by decide +kernel
theorem eX2_write_99 : decode cX2_write 99 = .ok (.dup, 1) := by decide +kernel
theorem eX2_write_100 : decode cX2_write 100 = .ok (.getfield 53, 3) := by decide +kernel
theorem eX2_write_103 : decode cX2_write 103 = .ok (.iconst 1, 1) := by decide +kernel
theorem eX2_write_104 : decode cX2_write 104 = .ok (.isub, 1) := by decide +kernel
theorem eX2_write_105 : decode cX2_write 105 = .ok (.putfield 53, 3) := by decide +kernel
theorem eX2_write_108 : decode cX2_write 108 = .ok (.aload_n 0, 1) := by decide +kernel
theorem eX2_write_109 : decode cX2_write 109 = .ok (.getfield 25, 3) := by decide +kernel
theorem eX2_write_112 : decode cX2_write 112 = .ok (.aload_n 0, 1) := by decide +kernel
theorem eX2_write_113 : decode cX2_write 113 = .ok (.getfield 53, 3) := by decide +kernel
theorem eX2_write_116 : decode cX2_write 116 = .ok (.iaload, 1) := by decide +kernel
theorem eX2_write_117 : decode cX2_write 117 = .ok (.istore 7, 2) := by decide +kernel
theorem eX2_write_119 : decode cX2_write 119 = .ok (.aload_n 0, 1) := by decide +kernel
theorem eX2_write_120 : decode cX2_write 120 = .ok (.getfield 28, 3) := by decide +kernel
theorem eX2_write_123 : decode cX2_write 123 = .ok (.aload_n 0, 1) := by decide +kernel
theorem eX2_write_124 : decode cX2_write 124 = .ok (.getfield 53, 3) := by decide +kernel
theorem eX2_write_127 : decode cX2_write 127 = .ok (.iaload, 1) := by decide +kernel
theorem eX2_write_128 : decode cX2_write 128 = .ok (.istore 8, 2) := by decide +kernel
theorem eX2_write_130 : decode cX2_write 130 = .ok (.aload_n 0, 1) := by decide +kernel
theorem eX2_write_131 : decode cX2_write 131 = .ok (.aload_n 1, 1) := by decide +kernel
theorem eX2_write_132 : decode cX2_write 132 = .ok (.iload 7, 2) := by decide +kernel
theorem eX2_write_134 : decode cX2_write 134 = .ok (.aload_n 0, 1) := by decide +kernel
theorem eX2_write_135 : decode cX2_write 135 = .ok (.getfield 12, 3) := by decide +kernel
theorem eX2_write_138 : decode cX2_write 138 = .ok (.iload 8, 2) := by decide +kernel
theorem eX2_write_140 : decode cX2_write 140 = .ok (.aload_n 0, 1) := by decide +kernel
theorem eX2_write_141 : decode cX2_write 141 = .ok (.getfield 31, 3) := by decide +kernel
theorem eX2_write_144 : decode cX2_write 144 = .ok (.aload_n 0, 1) := by decide +kernel
theorem eX2_write_145 : decode cX2_write 145 = .ok (.getfield 53, 3) := by decide +kernel
theorem eX2_write_148 : decode cX2_write 148 = .ok (.iaload, 1) := by decide +kernel
theorem eX2_write_149 : decode cX2_write 149 = .ok (.iload 5, 2) := by decide +kernel
theorem eX2_write_151 : decode cX2_write 151 = .ok (.invokevirtual 71, 3) := by decide +kernel
theorem eX2_write_154 : decode cX2_write 154 = .ok (.invokevirtual 75, 3) := by decide +kernel
theorem eX2_write_157 : decode cX2_write 157 = .ok (.iload 7, 2) := by decide +kernel
theorem eX2_write_159 : decode cX2_write 159 = .ok (.iload_n 2, 1) := by decide +kernel
theorem eX2_write_160 : decode cX2_write 160 = .ok (.if_icmp .ne 13, 3) := by decide +kernel
theorem eX2_write_163 : decode cX2_write 163 = .ok (.aload_n 0, 1) := by decide +kernel
theorem eX2_write_164 : decode cX2_write 164 = .ok (.aload_n 1, 1) := by decide +kernel
theorem eX2_write_165 : decode cX2_write 165 = .ok (.iload 7, 2) := by decide +kernel
theorem eX2_write_167 : decode cX2_write 167 = .ok (.iload_n 3, 1) := by decide +kernel
theorem eX2_write_168 : decode cX2_write 168 = .ok (.iload 4, 2) := by decide +kernel
theorem eX2_write_170 : decode cX2_write 170 = .ok (.invokevirtual 79, 3) := by decide +kernel
theorem eX2_write_173 : decode cX2_write 173 = .ok (.aload_n 0, 1) := by decide +kernel
theorem eX2_write_174 : decode cX2_write 174 = .ok (.aload_n 1, 1) := by decide +kernel
theorem eX2_write_175 : decode cX2_write 175 = .ok (.iload 7, 2) := by decide +kernel
theorem eX2_write_177 : decode cX2_write 177 = .ok (.iload 7, 2) := by decide +kernel
theorem eX2_write_179 : decode cX2_write 179 = .ok (.iload_n 2, 1) := by decide +kernel
theorem eX2_write_180 : decode cX2_write 180 = .ok (.if_icmp .ne 7, 3) := by decide +kernel
theorem eX2_write_183 : decode cX2_write 183 = .ok (.iload_n 3, 1) := by decide +kernel
theorem eX2_write_184 : decode cX2_write 184 = .ok (.goto 4, 3) := by decide +kernel
theorem eX2_write_187 : decode cX2_write 187 = .ok (.iconst (-1), 1) := by decide +kernel
theorem eX2_write_188 : decode cX2_write 188 = .ok (.invokevirtual 83, 3) := by decide +kernel
theorem eX2_write_191 : decode cX2_write 191 = .ok (.iinc 6 1, 3) := by decide +kernel
theorem eX2_write_194 : decode cX2_write 194 = .ok (.goto (-110), 3) := by decide +kernel
theorem eX2_write_197 : decode cX2_write 197 = .ok (.iinc 5 1, 3) := by decide +kernel
theorem eX2_write_200 : decode cX2_write 200 = .ok (.goto (-177), 3) := by decide +kernel
theorem eX2_write_203 : decode cX2_write 203 = .ok (.return_, 1) := by decide +kernel
def C_X2_write (o : Nat) (s : ST) (p : Int) (q : Int) (u : Int) (Q : ST → Prop) : Prop := bx <| isT o → RA s → R32 p → R32 q → R32 u → q_met mX2_write (qs layX s) [.ref 17, .ref o, .int (Int32.ofInt p), .int (Int32.ofInt q), .int (Int32.ofInt u)] (PV layX Q)
theorem C_X2_write.mono {o : Nat} {s : ST} {p : Int} {q : Int} {u : Int} {Q Q' : ST → Prop} (h : C_X2_write o s p q u Q) (hq : ∀ s, Q s → Q' s) : C_X2_write o s p q u Q' := ⟨fun ho hA hrp hrq hru => q_met.mono (h.1 ho hA hrp hrq hru) (fun _ _ => PV.mono hq), trivial⟩
def K_X2_write_188 (o : Nat) (s : ST) (a2 : Int) (a3 : Int) (a4 : Int) (a5 : Int) (a6 : Int) (t2 : Int) (t3 : Int) (Q : ST → Prop) : Prop := bx <| isT o → RA s → R32 a2 → R32 a3 → R32 a4 → R32 a5 → R32 a6 → R32 t2 → R32 t3 → q_K mX2_write (qs layX s) 0 0 188 [(0, .ref 17), (1, .ref o), (2, .int (Int32.ofInt a2)), (3, .int (Int32.ofInt a3)), (4, .int (Int32.ofInt a4)), (5, .int (Int32.ofInt a5)), (6, .int (Int32.ofInt a6))] [.int (Int32.ofInt t3), .int (Int32.ofInt t2), .ref o, .ref 17] (q_fin mX2_write (PV layX Q))
def K_X2_write_173 (o : Nat) (s : ST) (a2 : Int) (a3 : Int) (a4 : Int) (a5 : Int) (a6 : Int) (a7 : Int) (Q : ST → Prop) : Prop := bx <| isT o → RA s → R32 a2 → R32 a3 → R32 a4 → R32 a5 → R32 a6 → R32 a7 → q_K mX2_write (qs layX s) 0 0 173 [(0, .ref 17), (1, .ref o), (2, .int (Int32.ofInt a2)), (3, .int (Int32.ofInt a3)), (4, .int (Int32.ofInt a4)), (5, .int (Int32.ofInt a5)), (6, .int (Int32.ofInt a6)), (7, .int (Int32.ofInt a7))] [] (q_fin mX2_write (PV layX Q))
def K_X2_write_84 (o : Nat) (s : ST) (a2 : Int) (a3 : Int) (a4 : Int) (a5 : Int) (a6 : Int) (Q : ST → Prop) : Prop := bx <| isT o → RA s → R32 a2 → R32 a3 → R32 a4 → R32 a5 → R32 a6 → q_K mX2_write (qs layX s) 0 0 84 [(0, .ref 17), (1, .ref o), (2, .int (Int32.ofInt a2)), (3, .int (Int32.ofInt a3)), (4, .int (Int32.ofInt a4)), (5, .int (Int32.ofInt a5)), (6, .int (Int32.ofInt a6))] [] (q_fin mX2_write (PV layX Q))
def K_X2_write_23 (o : Nat) (s : ST) (a2 : Int) (a3 : Int) (a4 : Int) (a5 : Int) (Q : ST → Prop) : Prop := bx <| isT o → RA s → R32 a2 → R32 a3 → R32 a4 → R32 a5 → q_K mX2_write (qs layX s) 0 0 23 [(0, .ref 17), (1, .ref o), (2, .int (Int32.ofInt a2)), (3, .int (Int32.ofInt a3)), (4, .int (Int32.ofInt a4)), (5, .int (Int32.ofInt a5))] [] (q_fin mX2_write (PV layX Q))
set_option maxRecDepth 20000 in
theorem s_X2_write_188 {o : Nat} {s : ST} {a2 : Int} {a3 : Int} {a4 : Int} {a5 : Int} {a6 : Int} {t2 : Int} {t3 : Int} {Q : ST → Prop} (h : isT o → RA s → R32 a2 → R32 a3 → R32 a4 → R32 a5 → R32 a6 → R32 t2 → R32 t3 → (C_X2_pileKids o s t2 t3 (fun s1 => (R32 (a6 + 1) ∧ K_X2_write_84 o s1 a2 a3 a4 a5 (a6 + 1) Q)))) : K_X2_write_188 o s a2 a3 a4 a5 a6 t2 t3 Q := by
  refine ⟨?_, trivial⟩
  intro ho hA hra2 hra3 hra4 hra5 hra6 hrt2 hrt3
  have h := h ho hA hra2 hra3 hra4 hra5 hra6 hrt2 hrt3
  refine q_V3 (ci := 2) (n := 0) eX2_write_188 DX2_pileKids lX2_83 rfl (by decide) rfl rfl rfl rfl (h.1 ho hA hrt2 hrt3) ?_
  rintro _ _ ⟨s1, rfl, hA1, rfl, h⟩
  have r2 := h.1
  have h := h.2
  refine z_inc (m := 1) eX2_write_191 rfl (Nat.le_of_ble_eq_true rfl) rfl ?_
  refine q_goto (tgt := 84) eX2_write_194 (by decide) ?_
  exact q_subL rfl (h.1 ho hA1 hra2 hra3 hra4 hra5 r2)
set_option maxRecDepth 20000 in
theorem s_X2_write_173 {o : Nat} {s : ST} {a2 : Int} {a3 : Int} {a4 : Int} {a5 : Int} {a6 : Int} {a7 : Int} {Q : ST → Prop} (h : isT o → RA s → R32 a2 → R32 a3 → R32 a4 → R32 a5 → R32 a6 → R32 a7 → ((¬ a7 = a2 → K_X2_write_188 o s a2 a3 a4 a5 a6 a7 (-1) Q) ∧ (a7 = a2 → K_X2_write_188 o s a2 a3 a4 a5 a6 a7 a3 Q))) : K_X2_write_173 o s a2 a3 a4 a5 a6 a7 Q := by
  refine ⟨?_, trivial⟩
  intro ho hA hra2 hra3 hra4 hra5 hra6 hra7
  have h := h ho hA hra2 hra3 hra4 hra5 hra6 hra7
  refine q_aload_n eX2_write_173 rfl ?_
  refine q_aload_n eX2_write_174 rfl ?_
  refine q_iload eX2_write_175 rfl ?_
  refine q_iload eX2_write_177 rfl ?_
  refine q_iload_n eX2_write_179 rfl ?_
  refine q_cz_ne (tgt := 187) (a := a7) (b := a2) eX2_write_180 (by decide) (ofz hra7) (ofz hra2) (fun c180 => ?_) (fun c180 => ?_)
  · have h := h.1 c180
    refine q_ic (v := Int32.ofInt (-1)) eX2_write_187 rfl ?_
    exact q_subL rfl (h.1 ho hA hra2 hra3 hra4 hra5 hra6 hra7 (r32l rfl))
  · have h := h.2 c180
    refine q_iload_n eX2_write_183 rfl ?_
    refine q_goto (tgt := 188) eX2_write_184 (by decide) ?_
    exact q_subL rfl (h.1 ho hA hra2 hra3 hra4 hra5 hra6 hra7 hra3)
set_option maxRecDepth 20000 in
theorem s_X2_write_84 {o : Nat} {s : ST} {a2 : Int} {a3 : Int} {a4 : Int} {a5 : Int} {a6 : Int} {Q : ST → Prop} (h : isT o → RA s → R32 a2 → R32 a3 → R32 a4 → R32 a5 → R32 a6 → ((40 < a6 → (R32 (a5 + 1) ∧ K_X2_write_23 o s a2 a3 a4 (a5 + 1) Q)) ∧ (¬ 40 < a6 → ((s.1 17 6 ≤ 0 → (R32 (a5 + 1) ∧ K_X2_write_23 o s a2 a3 a4 (a5 + 1) Q)) ∧ (¬ s.1 17 6 ≤ 0 → (R32 (s.1 17 6 - 1) ∧ (((0 : Int) ≤ (s.1 17 6 - 1) ∧ (s.1 17 6 - 1) < 43) ∧ (C_X9_add 18 (ui s 17 6 (s.1 17 6 - 1)) (s.1 36 (s.1 17 6 - 1)) (s.1 37 (s.1 17 6 - 1)) a5 (fun s5 v5 => (C_X2_writePlace o s5 (s.1 35 (s.1 17 6 - 1)) v5 (fun s6 => ((¬ s.1 35 (s.1 17 6 - 1) = a2 → K_X2_write_173 o s6 a2 a3 a4 a5 a6 (s.1 35 (s.1 17 6 - 1)) Q) ∧ (s.1 35 (s.1 17 6 - 1) = a2 → (C_X2_changePlace o s6 (s.1 35 (s.1 17 6 - 1)) a3 a4 (fun s7 => K_X2_write_173 o s7 a2 a3 a4 a5 a6 (s.1 35 (s.1 17 6 - 1)) Q))))))))))))))) : K_X2_write_84 o s a2 a3 a4 a5 a6 Q := by
  refine ⟨?_, trivial⟩
  intro ho hA hra2 hra3 hra4 hra5 hra6
  have h := h ho hA hra2 hra3 hra4 hra5 hra6
  refine q_iload eX2_write_84 rfl ?_
  refine q_bi (v := Int32.ofInt 40) eX2_write_86 rfl ?_
  refine q_cz_gt (tgt := 197) (a := a6) (b := 40) eX2_write_88 (by decide) (ofz hra6) (ofz (r32l rfl)) (fun c88 => ?_) (fun c88 => ?_)
  · have h := h.1 c88
    have r1 := h.1
    have h := h.2
    refine z_inc (m := 1) eX2_write_197 rfl (Nat.le_of_ble_eq_true rfl) rfl ?_
    refine q_goto (tgt := 23) eX2_write_200 (by decide) ?_
    exact q_subL rfl (h.1 ho hA hra2 hra3 hra4 r1)
  · have h := h.2 c88
    refine q_aload_n eX2_write_91 rfl ?_
    refine q_getf (c := 2) (n := 0) (k := 6) (v := .int (Int32.ofInt (s.1 17 6))) eX2_write_92 rfl (by decide) (by decide) fX2_53 rfl ?_
    refine q_iz_le (tgt := 197) (a := s.1 17 6) eX2_write_95 (by decide) (ofz (hA _ _)) (fun c95 => ?_) (fun c95 => ?_)
    · have h := h.1 c95
      have r2 := h.1
      have h := h.2
      refine z_inc (m := 1) eX2_write_197 rfl (Nat.le_of_ble_eq_true rfl) rfl ?_
      refine q_goto (tgt := 23) eX2_write_200 (by decide) ?_
      exact q_subL rfl (h.1 ho hA hra2 hra3 hra4 r2)
    · have h := h.2 c95
      refine q_aload_n eX2_write_98 rfl ?_
      refine q_dup eX2_write_99 rfl ?_
      refine q_getf (c := 2) (n := 0) (k := 6) (v := .int (Int32.ofInt (s.1 17 6))) eX2_write_100 rfl (by decide) (by decide) fX2_53 rfl ?_
      refine q_ic (v := Int32.ofInt 1) eX2_write_103 rfl ?_
      refine z_isub eX2_write_104 ?_
      have r3 := h.1
      have h := h.2
      refine z_putI (c := 2) (n := 0) (k := 6) (kz := 6) eX2_write_105 rfl (by decide) (by decide) fX2_53 rfl rfl rfl ?_
      refine q_aload_n eX2_write_108 rfl ?_
      refine q_getR (c := 2) (n := 0) (k := 3) (a := 35) eX2_write_109 rfl (by decide) (by decide) fX2_25 rfl rfl ?_
      refine q_aload_n eX2_write_112 rfl ?_
      refine q_getf (c := 2) (n := 0) (k := 6) (v := .int (Int32.ofInt (s.1 17 6 - 1))) eX2_write_113 rfl (by decide) (by decide) fX2_53 rfl ?_
      have f4 := h.1
      have h := h.2
      refine z_iald (n := 43) eX2_write_116 rfl (ofz r3) f4 ?_
      refine q_topI (v := Int32.ofInt (s.1 35 (s.1 17 6 - 1))) rfl ?_
      refine q_istore eX2_write_117 (Nat.le_of_ble_eq_true rfl) ?_
      refine q_aload_n eX2_write_119 rfl ?_
      refine q_getR (c := 2) (n := 0) (k := 4) (a := 36) eX2_write_120 rfl (by decide) (by decide) fX2_28 rfl rfl ?_
      refine q_aload_n eX2_write_123 rfl ?_
      refine q_getf (c := 2) (n := 0) (k := 6) (v := .int (Int32.ofInt (s.1 17 6 - 1))) eX2_write_124 rfl (by decide) (by decide) fX2_53 rfl ?_
      refine z_iald (n := 43) eX2_write_127 rfl (ofz r3) f4 ?_
      refine q_topI (v := Int32.ofInt (s.1 36 (s.1 17 6 - 1))) rfl ?_
      refine q_istore eX2_write_128 (Nat.le_of_ble_eq_true rfl) ?_
      refine q_aload_n eX2_write_130 rfl ?_
      refine q_aload_n eX2_write_131 rfl ?_
      refine q_iload eX2_write_132 rfl ?_
      refine q_aload_n eX2_write_134 rfl ?_
      refine q_getR (c := 2) (n := 0) (k := 0) (a := 18) eX2_write_135 rfl (by decide) (by decide) fX2_12 rfl rfl ?_
      refine q_iload eX2_write_138 rfl ?_
      refine q_aload_n eX2_write_140 rfl ?_
      refine q_getR (c := 2) (n := 0) (k := 5) (a := 37) eX2_write_141 rfl (by decide) (by decide) fX2_31 rfl rfl ?_
      refine q_aload_n eX2_write_144 rfl ?_
      refine q_getf (c := 2) (n := 0) (k := 6) (v := .int (Int32.ofInt (s.1 17 6 - 1))) eX2_write_145 rfl (by decide) (by decide) fX2_53 rfl ?_
      refine z_iald (n := 43) eX2_write_148 rfl (ofz r3) f4 ?_
      refine q_topI (v := Int32.ofInt (s.1 37 (s.1 17 6 - 1))) rfl ?_
      refine q_iload eX2_write_149 rfl ?_
      refine q_V3 (ci := 9) (n := 0) eX2_write_151 DX9_add lX2_71 rfl (by decide) rfl rfl rfl rfl (h.1 (by decide) (ra_ui hA r3) (hA _ _) (hA _ _) hra5) ?_
      rintro _ _ ⟨s5, v5, rfl, hA5, r5, rfl, h⟩
      refine q_V3 (ci := 2) (n := 0) eX2_write_154 DX2_writePlace lX2_75 rfl (by decide) rfl rfl rfl rfl (h.1 ho hA5 (hA _ _) r5) ?_
      rintro _ _ ⟨s6, rfl, hA6, rfl, h⟩
      refine q_iload eX2_write_157 rfl ?_
      refine q_iload_n eX2_write_159 rfl ?_
      refine q_cz_ne (tgt := 173) (a := s.1 35 (s.1 17 6 - 1)) (b := a2) eX2_write_160 (by decide) (ofz (hA _ _)) (ofz hra2) (fun c160 => ?_) (fun c160 => ?_)
      · have h := h.1 c160
        exact q_subL rfl (h.1 ho hA6 hra2 hra3 hra4 hra5 hra6 (hA _ _))
      · have h := h.2 c160
        refine q_aload_n eX2_write_163 rfl ?_
        refine q_aload_n eX2_write_164 rfl ?_
        refine q_iload eX2_write_165 rfl ?_
        refine q_iload_n eX2_write_167 rfl ?_
        refine q_iload eX2_write_168 rfl ?_
        refine q_V4 (ci := 2) (n := 0) eX2_write_170 DX2_changePlace lX2_79 rfl (by decide) rfl rfl rfl rfl (h.1 ho hA6 (hA _ _) hra3 hra4) ?_
        rintro _ _ ⟨s7, rfl, hA7, rfl, h⟩
        exact q_subL rfl (h.1 ho hA7 hra2 hra3 hra4 hra5 hra6 (hA _ _))
set_option maxRecDepth 20000 in
theorem s_X2_write_23 {o : Nat} {s : ST} {a2 : Int} {a3 : Int} {a4 : Int} {a5 : Int} {Q : ST → Prop} (h : isT o → RA s → R32 a2 → R32 a3 → R32 a4 → R32 a5 → ((s.1 o 0 ≤ a5 → Q s) ∧ (¬ s.1 o 0 ≤ a5 → ((8 ≤ a5 → Q s) ∧ (¬ 8 ≤ a5 → (((0 : Int) ≤ a5 ∧ a5 < 8) ∧ (R32 (s.1 18 0 + 1) ∧ (P_X9_rootOf o (ui (uj s 19 a5 (s.2 (o + 1) a5)) 18 0 (s.1 18 0 + 1)) a5 ∧ (C_X2_pileUp (ui (uj s 19 a5 (s.2 (o + 1) a5)) 18 0 (s.1 18 0 + 1)) (F_X9_rootOf o (ui (uj s 19 a5 (s.2 (o + 1) a5)) 18 0 (s.1 18 0 + 1)) a5) (-1) 0 (fun s5 => K_X2_write_84 o s5 a2 a3 a4 a5 0 Q)))))))))) : K_X2_write_23 o s a2 a3 a4 a5 Q := by
  refine ⟨?_, trivial⟩
  intro ho hA hra2 hra3 hra4 hra5
  have h := h ho hA hra2 hra3 hra4 hra5
  refine q_iload eX2_write_23 rfl ?_
  refine q_aload_n eX2_write_25 rfl ?_
  refine q_getf (c := 9) (n := 0) (k := 0) (v := .int (Int32.ofInt (s.1 o 0))) eX2_write_26 (tl_0 ho) (by decide) (by decide) fX2_57 rfl ?_
  refine q_cz_ge (tgt := 203) (a := a5) (b := s.1 o 0) eX2_write_29 (by decide) (ofz hra5) (ofz (hA _ _)) (fun c29 => ?_) (fun c29 => ?_)
  · have h := h.1 c29
    exact q_ret eX2_write_203 rfl ⟨_, rfl, hA, rfl, h⟩
  · have h := h.2 c29
    refine q_iload eX2_write_32 rfl ?_
    refine q_bi (v := Int32.ofInt 8) eX2_write_34 rfl ?_
    refine q_cz_ge (tgt := 203) (a := a5) (b := 8) eX2_write_36 (by decide) (ofz hra5) (ofz (r32l rfl)) (fun c36 => ?_) (fun c36 => ?_)
    · have h := h.1 c36
      exact q_ret eX2_write_203 rfl ⟨_, rfl, hA, rfl, h⟩
    · have h := h.2 c36
      refine q_aload_n eX2_write_39 rfl ?_
      refine q_getR (c := 2) (n := 0) (k := 0) (a := 18) eX2_write_40 rfl (by decide) (by decide) fX2_12 rfl rfl ?_
      refine q_getR (c := 9) (n := 0) (k := 3) (a := 19) eX2_write_43 rfl (by decide) (by decide) fX2_60 rfl rfl ?_
      refine q_iload eX2_write_46 rfl ?_
      refine q_aload_n eX2_write_48 rfl ?_
      refine q_getR (c := 9) (n := 0) (k := 3) (a := (o + 1)) eX2_write_49 (tl_0 ho) (by decide) (by decide) fX2_60 rfl (tr_3 ho) ?_
      refine q_iload eX2_write_52 rfl ?_
      have f1 := h.1
      have h := h.2
      refine z_lald (n := 8) eX2_write_54 (tl_1 ho) (ofz hra5) f1 ?_
      refine q_topL (v := s.2 (o + 1) a5) rfl ?_
      refine z_last (n := 8) eX2_write_55 rfl (ofz hra5) f1  ?_
      refine q_aload_n eX2_write_56 rfl ?_
      refine q_getR (c := 2) (n := 0) (k := 0) (a := 18) eX2_write_57 rfl (by decide) (by decide) fX2_12 rfl rfl ?_
      refine q_dup eX2_write_60 rfl ?_
      refine q_getf (c := 9) (n := 0) (k := 0) (v := .int (Int32.ofInt (s.1 18 0))) eX2_write_61 rfl (by decide) (by decide) fX2_57 rfl ?_
      refine q_ic (v := Int32.ofInt 1) eX2_write_64 rfl ?_
      refine z_iadd eX2_write_65 ?_
      have r2 := h.1
      have h := h.2
      refine z_putI (c := 9) (n := 0) (k := 0) (kz := 0) eX2_write_66 rfl (by decide) (by decide) fX2_57 rfl rfl rfl ?_
      refine q_aload_n eX2_write_69 rfl ?_
      refine q_aload_n eX2_write_70 rfl ?_
      refine q_iload eX2_write_71 rfl ?_
      have f4 := h.1
      have h := h.2
      refine q_V1 (ci := 9) (n := 0) eX2_write_73 DX9_rootOf lX2_64 (tl_0 ho) (by decide) rfl rfl rfl rfl (p_X9_rootOf f4 ho (ra_ui (ra_uj hA) r2) hra5) ?_
      rintro _ _ ⟨r3, rfl, rfl⟩
      refine q_ic (v := Int32.ofInt (-1)) eX2_write_76 rfl ?_
      refine q_ic (v := Int32.ofInt 0) eX2_write_77 rfl ?_
      refine q_V3 (ci := 2) (n := 0) eX2_write_78 DX2_pileUp lX2_67 rfl (by decide) rfl rfl rfl rfl (h.1 (ra_ui (ra_uj hA) r2) r3 (r32l rfl) (r32l rfl)) ?_
      rintro _ _ ⟨s5, rfl, hA5, rfl, h⟩
      refine q_ic (v := Int32.ofInt 0) eX2_write_81 rfl ?_
      refine q_istore eX2_write_82 (Nat.le_of_ble_eq_true rfl) ?_
      exact q_subL rfl (h.1 ho hA5 hra2 hra3 hra4 hra5 (r32l rfl))
set_option maxRecDepth 20000 in
theorem s_X2_write {o : Nat} {s : ST} {p : Int} {q : Int} {u : Int} {Q : ST → Prop} (h : isT o → RA s → R32 p → R32 q → R32 u → (C_X9_clear 18 s (fun s1 => (C_X9_copyKindWords 18 o s1 (fun s2 => K_X2_write_23 o (ui s2 17 6 0) p q u 0 Q))))) : C_X2_write o s p q u Q := by
  refine ⟨?_, trivial⟩
  intro ho hA hrp hrq hru
  have h := h ho hA hrp hrq hru
  refine q_enter (by decide) (Nat.le_of_ble_eq_true rfl) ?_
  refine q_aload_n eX2_write_0 rfl ?_
  refine q_getR (c := 2) (n := 0) (k := 0) (a := 18) eX2_write_1 rfl (by decide) (by decide) fX2_12 rfl rfl ?_
  refine q_V0 (ci := 9) (n := 0) eX2_write_4 DX9_clear lX2_46 rfl (by decide) rfl rfl rfl rfl (h.1 (by decide) hA) ?_
  rintro _ _ ⟨s1, rfl, hA1, rfl, h⟩
  refine q_aload_n eX2_write_7 rfl ?_
  refine q_getR (c := 2) (n := 0) (k := 0) (a := 18) eX2_write_8 rfl (by decide) (by decide) fX2_12 rfl rfl ?_
  refine q_aload_n eX2_write_11 rfl ?_
  refine q_V1 (ci := 9) (n := 0) eX2_write_12 DX9_copyKindWords lX2_49 rfl (by decide) rfl rfl rfl rfl (h.1 (by decide) ho hA1) ?_
  rintro _ _ ⟨s2, rfl, hA2, rfl, h⟩
  refine q_aload_n eX2_write_15 rfl ?_
  refine q_ic (v := Int32.ofInt 0) eX2_write_16 rfl ?_
  refine z_putI (c := 2) (n := 0) (k := 6) (kz := 6) eX2_write_17 rfl (by decide) (by decide) fX2_53 rfl rfl rfl ?_
  refine q_ic (v := Int32.ofInt 0) eX2_write_20 rfl ?_
  refine q_istore eX2_write_21 (Nat.le_of_ble_eq_true rfl) ?_
  exact q_subL rfl (h.1 ho (ra_ui hA2 (r32l rfl)) hrp hrq hru (r32l rfl))
theorem eX3_has_0 : decode cX3_has 0 = .ok (.iload_n 1, 1) := by decide +kernel
theorem eX3_has_1 : decode cX3_has 1 = .ok (.ifCond .lt 21, 3) := by decide +kernel
theorem eX3_has_4 : decode cX3_has 4 = .ok (.iload_n 1, 1) := by decide +kernel
theorem eX3_has_5 : decode cX3_has 5 = .ok (.aload_n 0, 1) := by decide +kernel
theorem eX3_has_6 : decode cX3_has 6 = .ok (.getfield 33, 3) := by decide +kernel
theorem eX3_has_9 : decode cX3_has 9 = .ok (.if_icmp .ge 13, 3) := by decide +kernel
theorem eX3_has_12 : decode cX3_has 12 = .ok (.iload_n 1, 1) := by decide +kernel
theorem eX3_has_13 : decode cX3_has 13 = .ok (.bipush 40, 2) := by decide +kernel
theorem eX3_has_15 : decode cX3_has 15 = .ok (.if_icmp .ge 7, 3) := by decide +kernel
theorem eX3_has_18 : decode cX3_has 18 = .ok (.iconst 1, 1) := by decide +kernel
theorem eX3_has_19 : decode cX3_has 19 = .ok (.goto 4, 3) := by decide +kernel
theorem eX3_has_22 : decode cX3_has 22 = .ok (.iconst 0, 1) := by decide +kernel
theorem eX3_has_23 : decode cX3_has 23 = .ok (.ireturn, 1) := by decide +kernel
def C_X3_has (s : ST) (p : Int) (Q : ST → Int → Prop) : Prop := bx <| RA s → R32 p → q_met mX3_has (qs layX s) [.ref 76, .int (Int32.ofInt p)] (PB layX Q)
theorem C_X3_has.mono {s : ST} {p : Int} {Q Q' : ST → Int → Prop} (h : C_X3_has s p Q) (hq : ∀ s v, Q s v → Q' s v) : C_X3_has s p Q' := ⟨fun hA hrp => q_met.mono (h.1 hA hrp) (fun _ _ => PB.mono hq), trivial⟩
set_option maxRecDepth 20000 in
theorem s_X3_has {s : ST} {p : Int} {Q : ST → Int → Prop} (h : RA s → R32 p → ((p < 0 → Q s 0) ∧ (¬ p < 0 → ((s.1 76 1 ≤ p → Q s 0) ∧ (¬ s.1 76 1 ≤ p → ((40 ≤ p → Q s 0) ∧ (¬ 40 ≤ p → Q s 1))))))) : C_X3_has s p Q := by
  refine ⟨?_, trivial⟩
  intro hA hrp
  have h := h hA hrp
  refine q_enter (by decide) (Nat.le_of_ble_eq_true rfl) ?_
  refine q_iload_n eX3_has_0 rfl ?_
  refine q_iz_lt (tgt := 22) (a := p) eX3_has_1 (by decide) (ofz hrp) (fun c1 => ?_) (fun c1 => ?_)
  · have h := h.1 c1
    refine q_ic (v := Int32.ofInt 0) eX3_has_22 rfl ?_
    exact q_zret eX3_has_23 rfl (z01 (Or.inl rfl)) ⟨_, _, rfl, hA, (Or.inl rfl), rfl, h⟩
  · have h := h.2 c1
    refine q_iload_n eX3_has_4 rfl ?_
    refine q_aload_n eX3_has_5 rfl ?_
    refine q_getf (c := 3) (n := 0) (k := 1) (v := .int (Int32.ofInt (s.1 76 1))) eX3_has_6 rfl (by decide) (by decide) fX3_33 rfl ?_
    refine q_cz_ge (tgt := 22) (a := p) (b := s.1 76 1) eX3_has_9 (by decide) (ofz hrp) (ofz (hA _ _)) (fun c9 => ?_) (fun c9 => ?_)
    · have h := h.1 c9
      refine q_ic (v := Int32.ofInt 0) eX3_has_22 rfl ?_
      exact q_zret eX3_has_23 rfl (z01 (Or.inl rfl)) ⟨_, _, rfl, hA, (Or.inl rfl), rfl, h⟩
    · have h := h.2 c9
      refine q_iload_n eX3_has_12 rfl ?_
      refine q_bi (v := Int32.ofInt 40) eX3_has_13 rfl ?_
      refine q_cz_ge (tgt := 22) (a := p) (b := 40) eX3_has_15 (by decide) (ofz hrp) (ofz (r32l rfl)) (fun c15 => ?_) (fun c15 => ?_)
      · have h := h.1 c15
        refine q_ic (v := Int32.ofInt 0) eX3_has_22 rfl ?_
        exact q_zret eX3_has_23 rfl (z01 (Or.inl rfl)) ⟨_, _, rfl, hA, (Or.inl rfl), rfl, h⟩
      · have h := h.2 c15
        refine q_ic (v := Int32.ofInt 1) eX3_has_18 rfl ?_
        refine q_goto (tgt := 23) eX3_has_19 (by decide) ?_
        exact q_zret eX3_has_23 rfl (z01 (Or.inr rfl)) ⟨_, _, rfl, hA, (Or.inr rfl), rfl, h⟩
def F_X3_has (s : ST) (p : Int) : Int := (if p < 0 then 0 else (if s.1 76 1 ≤ p then 0 else (if 40 ≤ p then 0 else 1)))
theorem w_X3_has {s : ST} {p : Int} : C_X3_has s p (fun s' v => s' = s ∧ v = F_X3_has s p) := by
  refine s_X3_has (fun hA hrp => ?_)
  refine ⟨fun e0 => ?_, fun e0 => ?_⟩
  · exact ⟨rfl, by unfold F_X3_has; rw [if_pos e0]⟩
  · refine ⟨fun e1 => ?_, fun e1 => ?_⟩
    · exact ⟨rfl, by unfold F_X3_has; rw [if_neg e0, if_pos e1]⟩
    · refine ⟨fun e2 => ?_, fun e2 => ?_⟩
      · exact ⟨rfl, by unfold F_X3_has; rw [if_neg e0, if_neg e1, if_pos e2]⟩
      · exact ⟨rfl, by unfold F_X3_has; rw [if_neg e0, if_neg e1, if_neg e2]⟩
theorem p_X3_has {s : ST} {p : Int} : RA s → R32 p → q_met mX3_has (qs layX s) [.ref 76, .int (Int32.ofInt p)] (fun σ r => (F_X3_has s p = 0 ∨ F_X3_has s p = 1) ∧ σ = qs layX s ∧ r = some (.int (Int32.ofInt (F_X3_has s p)))) := fun hA hrp => q_met.mono ((w_X3_has).1 hA hrp) (by
  rintro _ _ ⟨s1, v1, rfl, h1, h2, rfl, rfl, rfl⟩
  exact ⟨h2, rfl, rfl⟩)
theorem n_X3_has {s : ST} {p : Int} : ¬ F_X3_has s p = 0 ↔ (¬ p < 0 ∧ (¬ s.1 76 1 ≤ p ∧ ¬ 40 ≤ p)) := by
  unfold F_X3_has
  first | omega | ((repeat' split) <;> simp_all) | ((repeat' split) <;> (simp_all <;> omega))
theorem eX3_keep_0 : decode cX3_keep 0 = .ok (.aload_n 0, 1) := by decide +kernel
theorem eX3_keep_1 : decode cX3_keep 1 = .ok (.getfield 33, 3) := by decide +kernel
theorem eX3_keep_4 : decode cX3_keep 4 = .ok (.ifCond .lt 52, 3) := by decide +kernel
theorem eX3_keep_7 : decode cX3_keep 7 = .ok (.aload_n 0, 1) := by decide +kernel
theorem eX3_keep_8 : decode cX3_keep 8 = .ok (.getfield 33, 3) := by decide +kernel
theorem eX3_keep_11 : decode cX3_keep 11 = .ok (.bipush 40, 2) := by decide +kernel
theorem eX3_keep_13 : decode cX3_keep 13 = .ok (.if_icmp .ge 43, 3) := by decide +kernel
theorem eX3_keep_16 : decode cX3_keep 16 = .ok (.aload_n 0, 1) := by decide +kernel
theorem eX3_keep_17 : decode cX3_keep 17 = .ok (.getfield 9, 3) := by decide +kernel
theorem eX3_keep_20 : decode cX3_keep 20 = .ok (.aload_n 0, 1) := by decide +kernel
theorem eX3_keep_21 : decode cX3_keep 21 = .ok (.getfield 33, 3) := by decide +kernel
theorem eX3_keep_24 : decode cX3_keep 24 = .ok (.iload_n 1, 1) := by decide +kernel
theorem eX3_keep_25 : decode cX3_keep 25 = .ok (.iastore, 1) := by decide +kernel
theorem eX3_keep_26 : decode cX3_keep 26 = .ok (.aload_n 0, 1) := by decide +kernel
theorem eX3_keep_27 : decode cX3_keep 27 = .ok (.getfield 15, 3) := by decide +kernel
theorem eX3_keep_30 : decode cX3_keep 30 = .ok (.aload_n 0, 1) := by decide +kernel
theorem eX3_keep_31 : decode cX3_keep 31 = .ok (.getfield 33, 3) := by decide +kernel
theorem eX3_keep_34 : decode cX3_keep 34 = .ok (.iload_n 2, 1) := by decide +kernel
theorem eX3_keep_35 : decode cX3_keep 35 = .ok (.iastore, 1) := by decide +kernel
theorem eX3_keep_36 : decode cX3_keep 36 = .ok (.aload_n 0, 1) := by decide +kernel
theorem eX3_keep_37 : decode cX3_keep 37 = .ok (.getfield 18, 3) := by decide +kernel
theorem eX3_keep_40 : decode cX3_keep 40 = .ok (.aload_n 0, 1) := by decide +kernel
theorem eX3_keep_41 : decode cX3_keep 41 = .ok (.getfield 33, 3) := by decide +kernel
theorem eX3_keep_44 : decode cX3_keep 44 = .ok (.iload_n 3, 1) := by decide +kernel
theorem eX3_keep_45 : decode cX3_keep 45 = .ok (.iastore, 1) := by decide +kernel
theorem eX3_keep_46 : decode cX3_keep 46 = .ok (.aload_n 0, 1) := by decide +kernel
theorem eX3_keep_47 : decode cX3_keep 47 = .ok (.dup, 1) := by decide +kernel
theorem eX3_keep_48 : decode cX3_keep 48 = .ok (.getfield 33, 3) := by decide +kernel
theorem eX3_keep_51 : decode cX3_keep 51 = .ok (.iconst 1, 1) := by decide +kernel
theorem eX3_keep_52 : decode cX3_keep 52 = .ok (.iadd, 1) := by decide +kernel
theorem eX3_keep_53 : decode cX3_keep 53 = .ok (.putfield 33, 3) := by decide +kernel
theorem eX3_keep_56 : decode cX3_keep 56 = .ok (.return_, 1) := by decide +kernel
def C_X3_keep (s : ST) (p : Int) (q : Int) (u : Int) (Q : ST → Prop) : Prop := bx <| RA s → R32 p → R32 q → R32 u → q_met mX3_keep (qs layX s) [.ref 76, .int (Int32.ofInt p), .int (Int32.ofInt q), .int (Int32.ofInt u)] (PV layX Q)
theorem C_X3_keep.mono {s : ST} {p : Int} {q : Int} {u : Int} {Q Q' : ST → Prop} (h : C_X3_keep s p q u Q) (hq : ∀ s, Q s → Q' s) : C_X3_keep s p q u Q' := ⟨fun hA hrp hrq hru => q_met.mono (h.1 hA hrp hrq hru) (fun _ _ => PV.mono hq), trivial⟩
set_option maxRecDepth 20000 in
theorem s_X3_keep {s : ST} {p : Int} {q : Int} {u : Int} {Q : ST → Prop} (h : RA s → R32 p → R32 q → R32 u → ((s.1 76 1 < 0 → Q s) ∧ (¬ s.1 76 1 < 0 → ((40 ≤ s.1 76 1 → Q s) ∧ (¬ 40 ≤ s.1 76 1 → (((0 : Int) ≤ s.1 76 1 ∧ s.1 76 1 < 40) ∧ (R32 (s.1 76 1 + 1) ∧ Q (ui (ui (ui (ui s 77 (s.1 76 1) p) 78 (s.1 76 1) q) 79 (s.1 76 1) u) 76 1 (s.1 76 1 + 1))))))))) : C_X3_keep s p q u Q := by
  refine ⟨?_, trivial⟩
  intro hA hrp hrq hru
  have h := h hA hrp hrq hru
  refine q_enter (by decide) (Nat.le_of_ble_eq_true rfl) ?_
  refine q_aload_n eX3_keep_0 rfl ?_
  refine q_getf (c := 3) (n := 0) (k := 1) (v := .int (Int32.ofInt (s.1 76 1))) eX3_keep_1 rfl (by decide) (by decide) fX3_33 rfl ?_
  refine q_iz_lt (tgt := 56) (a := s.1 76 1) eX3_keep_4 (by decide) (ofz (hA _ _)) (fun c4 => ?_) (fun c4 => ?_)
  · have h := h.1 c4
    exact q_ret eX3_keep_56 rfl ⟨_, rfl, hA, rfl, h⟩
  · have h := h.2 c4
    refine q_aload_n eX3_keep_7 rfl ?_
    refine q_getf (c := 3) (n := 0) (k := 1) (v := .int (Int32.ofInt (s.1 76 1))) eX3_keep_8 rfl (by decide) (by decide) fX3_33 rfl ?_
    refine q_bi (v := Int32.ofInt 40) eX3_keep_11 rfl ?_
    refine q_cz_ge (tgt := 56) (a := s.1 76 1) (b := 40) eX3_keep_13 (by decide) (ofz (hA _ _)) (ofz (r32l rfl)) (fun c13 => ?_) (fun c13 => ?_)
    · have h := h.1 c13
      exact q_ret eX3_keep_56 rfl ⟨_, rfl, hA, rfl, h⟩
    · have h := h.2 c13
      refine q_aload_n eX3_keep_16 rfl ?_
      refine q_getR (c := 3) (n := 0) (k := 2) (a := 77) eX3_keep_17 rfl (by decide) (by decide) fX3_9 rfl rfl ?_
      refine q_aload_n eX3_keep_20 rfl ?_
      refine q_getf (c := 3) (n := 0) (k := 1) (v := .int (Int32.ofInt (s.1 76 1))) eX3_keep_21 rfl (by decide) (by decide) fX3_33 rfl ?_
      refine q_iload_n eX3_keep_24 rfl ?_
      have f1 := h.1
      have h := h.2
      refine z_iast (n := 40) eX3_keep_25 rfl (ofz (hA _ _)) f1  ?_
      refine q_aload_n eX3_keep_26 rfl ?_
      refine q_getR (c := 3) (n := 0) (k := 3) (a := 78) eX3_keep_27 rfl (by decide) (by decide) fX3_15 rfl rfl ?_
      refine q_aload_n eX3_keep_30 rfl ?_
      refine q_getf (c := 3) (n := 0) (k := 1) (v := .int (Int32.ofInt (s.1 76 1))) eX3_keep_31 rfl (by decide) (by decide) fX3_33 rfl ?_
      refine q_iload_n eX3_keep_34 rfl ?_
      refine z_iast (n := 40) eX3_keep_35 rfl (ofz (hA _ _)) f1  ?_
      refine q_aload_n eX3_keep_36 rfl ?_
      refine q_getR (c := 3) (n := 0) (k := 4) (a := 79) eX3_keep_37 rfl (by decide) (by decide) fX3_18 rfl rfl ?_
      refine q_aload_n eX3_keep_40 rfl ?_
      refine q_getf (c := 3) (n := 0) (k := 1) (v := .int (Int32.ofInt (s.1 76 1))) eX3_keep_41 rfl (by decide) (by decide) fX3_33 rfl ?_
      refine q_iload_n eX3_keep_44 rfl ?_
      refine z_iast (n := 40) eX3_keep_45 rfl (ofz (hA _ _)) f1  ?_
      refine q_aload_n eX3_keep_46 rfl ?_
      refine q_dup eX3_keep_47 rfl ?_
      refine q_getf (c := 3) (n := 0) (k := 1) (v := .int (Int32.ofInt (s.1 76 1))) eX3_keep_48 rfl (by decide) (by decide) fX3_33 rfl ?_
      refine q_ic (v := Int32.ofInt 1) eX3_keep_51 rfl ?_
      refine z_iadd eX3_keep_52 ?_
      have r2 := h.1
      have h := h.2
      refine z_putI (c := 3) (n := 0) (k := 1) (kz := 1) eX3_keep_53 rfl (by decide) (by decide) fX3_33 rfl rfl rfl ?_
      exact q_ret eX3_keep_56 rfl ⟨_, rfl, (ra_ui (ra_ui (ra_ui (ra_ui hA hrp) hrq) hru) r2), rfl, h⟩
theorem eX3_list_0 : decode cX3_list 0 = .ok (.aload_n 0, 1) := by decide +kernel
theorem eX3_list_1 : decode cX3_list 1 = .ok (.getfield 37, 3) := by decide +kernel
theorem eX3_list_4 : decode cX3_list 4 = .ok (.ifCond .eq 4, 3) := by decide +kernel
theorem eX3_list_7 : decode cX3_list 7 = .ok (.return_, 1) := by decide +kernel
theorem eX3_list_8 : decode cX3_list 8 = .ok (.aload_n 0, 1) := by decide +kernel
theorem eX3_list_9 : decode cX3_list 9 = .ok (.iconst 1, 1) := by decide +kernel
theorem eX3_list_10 : decode cX3_list 10 = .ok (.putfield 37, 3) := by decide +kernel
theorem eX3_list_13 : decode cX3_list 13 = .ok (.aload_n 0, 1) := by decide +kernel
theorem eX3_list_14 : decode cX3_list 14 = .ok (.iconst 0, 1) := by decide +kernel
theorem eX3_list_15 : decode cX3_list 15 = .ok (.putfield 33, 3) := by decide +kernel
theorem eX3_list_18 : decode cX3_list 18 = .ok (.iconst 0, 1) := by decide +kernel
theorem eX3_list_19 : decode cX3_list 19 = .ok (.istore_n 3, 1) := by decide +kernel
theorem eX3_list_20 : decode cX3_list 20 = .ok (.iload_n 3, 1) := by decide +kernel
theorem eX3_list_21 : decode cX3_list 21 = .ok (.bipush 24, 2) := by decide +kernel
theorem eX3_list_23 : decode cX3_list 23 = .ok (.if_icmp .ge 148, 3) := by decide +kernel
theorem eX3_list_26 : decode cX3_list 26 = .ok (.iload_n 3, 1) := by decide +kernel
theorem eX3_list_27 : decode cX3_list 27 = .ok (.aload_n 0, 1) := by decide +kernel
theorem eX3_list_28 : decode cX3_list 28 = .ok (.getfield 21, 3) := by decide +kernel
theorem eX3_list_31 : decode cX3_list 31 = .ok (.getfield 41, 3) := by decide +kernel
theorem eX3_list_34 : decode cX3_list 34 = .ok (.if_icmp .ge 137, 3) := by decide +kernel
theorem eX3_list_37 : decode cX3_list 37 = .ok (.iconst 0, 1) := by decide +kernel
theorem eX3_list_38 : decode cX3_list 38 = .ok (.istore 4, 2) := by decide +kernel
theorem eX3_list_40 : decode cX3_list 40 = .ok (.iload 4, 2) := by decide +kernel
theorem eX3_list_42 : decode cX3_list 42 = .ok (.iconst 5, 1) := by decide +kernel
theorem eX3_list_43 : decode cX3_list 43 = .ok (.if_icmp .ge 122, 3) := by decide +kernel
theorem eX3_list_46 : decode cX3_list 46 = .ok (.lload_n 1, 1) := by decide +kernel
theorem eX3_list_47 : decode cX3_list 47 = .ok (.iload_n 3, 1) := by decide +kernel
theorem eX3_list_48 : decode cX3_list 48 = .ok (.lushr, 1) := by decide +kernel
theorem eX3_list_49 : decode cX3_list 49 = .ok (.lconst 1, 1) := by decide +kernel
theorem eX3_list_50 : decode cX3_list 50 = .ok (.land, 1) := by decide +kernel
theorem eX3_list_51 : decode cX3_list 51 = .ok (.lconst 0, 1) := by decide +kernel
theorem eX3_list_52 : decode cX3_list 52 = .ok (.lcmp, 1) := by decide +kernel
theorem eX3_list_53 : decode cX3_list 53 = .ok (.ifCond .eq 112, 3) := by decide +kernel
theorem eX3_list_56 : decode cX3_list 56 = .ok (.aload_n 0, 1) := by decide +kernel
theorem eX3_list_57 : decode cX3_list 57 = .ok (.getfield 25, 3) := by decide +kernel
theorem eX3_list_60 : decode cX3_list 60 = .ok (.aload_n 0, 1) := by decide +kernel
theorem eX3_list_61 : decode cX3_list 61 = .ok (.getfield 21, 3) := by decide +kernel
theorem eX3_list_64 : decode cX3_list 64 = .ok (.iload_n 3, 1) := by decide +kernel
theorem eX3_list_65 : decode cX3_list 65 = .ok (.iload 4, 2) := by decide +kernel
theorem eX3_list_67 : decode cX3_list 67 = .ok (.invokevirtual 46, 3) := by decide +kernel
theorem eX3_list_70 : decode cX3_list 70 = .ok (.istore 5, 2) := by decide +kernel
theorem eX3_list_72 : decode cX3_list 72 = .ok (.iconst 0, 1) := by decide +kernel
theorem eX3_list_73 : decode cX3_list 73 = .ok (.istore 6, 2) := by decide +kernel
theorem eX3_list_75 : decode cX3_list 75 = .ok (.iload 6, 2) := by decide +kernel
theorem eX3_list_77 : decode cX3_list 77 = .ok (.iload 5, 2) := by decide +kernel
theorem eX3_list_79 : decode cX3_list 79 = .ok (.if_icmp .ge 80, 3) := by decide +kernel
theorem eX3_list_82 : decode cX3_list 82 = .ok (.aload_n 0, 1) := by decide +kernel
theorem eX3_list_83 : decode cX3_list 83 = .ok (.getfield 33, 3) := by decide +kernel
theorem eX3_list_86 : decode cX3_list 86 = .ok (.bipush 40, 2) := by decide +kernel
theorem eX3_list_88 : decode cX3_list 88 = .ok (.if_icmp .ge 71, 3) := by decide +kernel
theorem eX3_list_91 : decode cX3_list 91 = .ok (.aload_n 0, 1) := by decide +kernel
theorem eX3_list_92 : decode cX3_list 92 = .ok (.getfield 25, 3) := by decide +kernel
theorem eX3_list_95 : decode cX3_list 95 = .ok (.aload_n 0, 1) := by decide +kernel
theorem eX3_list_96 : decode cX3_list 96 = .ok (.getfield 21, 3) := by decide +kernel
theorem eX3_list_99 : decode cX3_list 99 = .ok (.iload_n 3, 1) := by decide +kernel
theorem eX3_list_100 : decode cX3_list 100 = .ok (.iload 4, 2) := by decide +kernel
theorem eX3_list_102 : decode cX3_list 102 = .ok (.iload 6, 2) := by decide +kernel
theorem eX3_list_104 : decode cX3_list 104 = .ok (.invokevirtual 52, 3) := by decide +kernel
theorem eX3_list_107 : decode cX3_list 107 = .ok (.aload_n 0, 1) := by decide +kernel
theorem eX3_list_108 : decode cX3_list 108 = .ok (.getfield 29, 3) := by decide +kernel
theorem eX3_list_111 : decode cX3_list 111 = .ok (.invokevirtual 56, 3) := by decide +kernel
theorem eX3_list_114 : decode cX3_list 114 = .ok (.aload_n 0, 1) := by decide +kernel
theorem eX3_list_115 : decode cX3_list 115 = .ok (.getfield 29, 3) := by decide +kernel
theorem eX3_list_118 : decode cX3_list 118 = .ok (.getfield 61, 3) := by decide +kernel
theorem eX3_list_121 : decode cX3_list 121 = .ok (.ifCond .ne 32, 3) := by decide +kernel
theorem eX3_list_124 : decode cX3_list 124 = .ok (.aload_n 0, 1) := by decide +kernel
theorem eX3_list_125 : decode cX3_list 125 = .ok (.getfield 29, 3) := by decide +kernel
theorem eX3_list_128 : decode cX3_list 128 = .ok (.aload_n 0, 1) := by decide +kernel
theorem eX3_list_129 : decode cX3_list 129 = .ok (.getfield 25, 3) := by decide +kernel
theorem eX3_list_132 : decode cX3_list 132 = .ok (.getfield 64, 3) := by decide +kernel
theorem eX3_list_135 : decode cX3_list 135 = .ok (.invokevirtual 65, 3) := by decide +kernel
theorem eX3_list_138 : decode cX3_list 138 = .ok (.invokevirtual 69, 3) := by decide +kernel
theorem eX3_list_141 : decode cX3_list 141 = .ok (.ifCond .ne 12, 3) := by decide +kernel
theorem eX3_list_144 : decode cX3_list 144 = .ok (.aload_n 0, 1) := by decide +kernel
theorem eX3_list_145 : decode cX3_list 145 = .ok (.iload_n 3, 1) := by decide +kernel
theorem eX3_list_146 : decode cX3_list 146 = .ok (.iload 4, 2) := by decide +kernel
theorem eX3_list_148 : decode cX3_list 148 = .ok (.iload 6, 2) := by decide +kernel
theorem eX3_list_150 : decode cX3_list 150 = .ok (.invokevirtual 73, 3) := by decide +kernel
theorem eX3_list_153 : decode cX3_list 153 = .ok (.iinc 6 1, 3) := by decide +kernel
theorem eX3_list_156 : decode cX3_list 156 = .ok (.goto (-81), 3) := by decide +kernel
theorem eX3_list_159 : decode cX3_list 159 = .ok (.iinc 4 1, 3) := by decide +kernel
theorem eX3_list_162 : decode cX3_list 162 = .ok (.goto (-122), 3) := by decide +kernel
theorem eX3_list_165 : decode cX3_list 165 = .ok (.iinc 3 1, 3) := by decide +kernel
theorem eX3_list_168 : decode cX3_list 168 = .ok (.goto (-148), 3) := by decide +kernel
theorem eX3_list_171 : decode cX3_list 171 = .ok (.return_, 1) := by decide +kernel
def C_X3_list (s : ST) (p : Int64) (Q : ST → Prop) : Prop := bx <| RA s → q_met mX3_list (qs layX s) [.ref 76, .long p] (PV layX Q)
theorem C_X3_list.mono {s : ST} {p : Int64} {Q Q' : ST → Prop} (h : C_X3_list s p Q) (hq : ∀ s, Q s → Q' s) : C_X3_list s p Q' := ⟨fun hA => q_met.mono (h.1 hA) (fun _ _ => PV.mono hq), trivial⟩
def K_X3_list_75 (s : ST) (a1 : Int64) (a3 : Int) (a4 : Int) (a5 : Int) (a6 : Int) (Q : ST → Prop) : Prop := bx <| RA s → R32 a3 → R32 a4 → R32 a5 → R32 a6 → q_K mX3_list (qs layX s) 0 0 75 [(0, .ref 76), (1, .long a1), (3, .int (Int32.ofInt a3)), (4, .int (Int32.ofInt a4)), (5, .int (Int32.ofInt a5)), (6, .int (Int32.ofInt a6))] [] (q_fin mX3_list (PV layX Q))
def K_X3_list_40 (s : ST) (a1 : Int64) (a3 : Int) (a4 : Int) (Q : ST → Prop) : Prop := bx <| RA s → R32 a3 → R32 a4 → q_K mX3_list (qs layX s) 0 0 40 [(0, .ref 76), (1, .long a1), (3, .int (Int32.ofInt a3)), (4, .int (Int32.ofInt a4))] [] (q_fin mX3_list (PV layX Q))
def K_X3_list_20 (s : ST) (a1 : Int64) (a3 : Int) (Q : ST → Prop) : Prop := bx <| RA s → R32 a3 → q_K mX3_list (qs layX s) 0 0 20 [(0, .ref 76), (1, .long a1), (3, .int (Int32.ofInt a3))] [] (q_fin mX3_list (PV layX Q))
set_option maxRecDepth 20000 in
theorem s_X3_list_75 {s : ST} {a1 : Int64} {a3 : Int} {a4 : Int} {a5 : Int} {a6 : Int} {Q : ST → Prop} (h : RA s → R32 a3 → R32 a4 → R32 a5 → R32 a6 → ((a5 ≤ a6 → (R32 (a4 + 1) ∧ K_X3_list_40 s a1 a3 (a4 + 1) Q)) ∧ (¬ a5 ≤ a6 → ((40 ≤ s.1 76 1 → (R32 (a4 + 1) ∧ K_X3_list_40 s a1 a3 (a4 + 1) Q)) ∧ (¬ 40 ≤ s.1 76 1 → (C_X2_write 2 s a3 a4 a6 (fun s3 => (C_X0_list 59 s3 (fun s4 => ((¬ s4.1 59 1 = 0 → (R32 (a6 + 1) ∧ K_X3_list_75 s4 a1 a3 a4 a5 (a6 + 1) Q)) ∧ (s4.1 59 1 = 0 → (C_X0_clashOf 59 s4 ((lshl 1 (s4.1 18 1)) - 1) (fun s7 v7 => (v7 = 0 ∨ v7 = 1) → ((¬ v7 = 0 → (R32 (a6 + 1) ∧ K_X3_list_75 s7 a1 a3 a4 a5 (a6 + 1) Q)) ∧ (v7 = 0 → (C_X3_keep s7 a3 a4 a6 (fun s9 => (R32 (a6 + 1) ∧ K_X3_list_75 s9 a1 a3 a4 a5 (a6 + 1) Q)))))))))))))))))) : K_X3_list_75 s a1 a3 a4 a5 a6 Q := by
  refine ⟨?_, trivial⟩
  intro hA hra3 hra4 hra5 hra6
  have h := h hA hra3 hra4 hra5 hra6
  refine q_iload eX3_list_75 rfl ?_
  refine q_iload eX3_list_77 rfl ?_
  refine q_cz_ge (tgt := 159) (a := a6) (b := a5) eX3_list_79 (by decide) (ofz hra6) (ofz hra5) (fun c79 => ?_) (fun c79 => ?_)
  · have h := h.1 c79
    have r1 := h.1
    have h := h.2
    refine z_inc (m := 1) eX3_list_159 rfl (Nat.le_of_ble_eq_true rfl) rfl ?_
    refine q_goto (tgt := 40) eX3_list_162 (by decide) ?_
    exact q_subL rfl (h.1 hA hra3 r1)
  · have h := h.2 c79
    refine q_aload_n eX3_list_82 rfl ?_
    refine q_getf (c := 3) (n := 0) (k := 1) (v := .int (Int32.ofInt (s.1 76 1))) eX3_list_83 rfl (by decide) (by decide) fX3_33 rfl ?_
    refine q_bi (v := Int32.ofInt 40) eX3_list_86 rfl ?_
    refine q_cz_ge (tgt := 159) (a := s.1 76 1) (b := 40) eX3_list_88 (by decide) (ofz (hA _ _)) (ofz (r32l rfl)) (fun c88 => ?_) (fun c88 => ?_)
    · have h := h.1 c88
      have r2 := h.1
      have h := h.2
      refine z_inc (m := 1) eX3_list_159 rfl (Nat.le_of_ble_eq_true rfl) rfl ?_
      refine q_goto (tgt := 40) eX3_list_162 (by decide) ?_
      exact q_subL rfl (h.1 hA hra3 r2)
    · have h := h.2 c88
      refine q_aload_n eX3_list_91 rfl ?_
      refine q_getR (c := 3) (n := 0) (k := 6) (a := 17) eX3_list_92 rfl (by decide) (by decide) fX3_25 rfl rfl ?_
      refine q_aload_n eX3_list_95 rfl ?_
      refine q_getR (c := 3) (n := 0) (k := 5) (a := 2) eX3_list_96 rfl (by decide) (by decide) fX3_21 rfl rfl ?_
      refine q_iload_n eX3_list_99 rfl ?_
      refine q_iload eX3_list_100 rfl ?_
      refine q_iload eX3_list_102 rfl ?_
      refine q_V4 (ci := 2) (n := 0) eX3_list_104 DX2_write lX3_52 rfl (by decide) rfl rfl rfl rfl (h.1 (by decide) hA hra3 hra4 hra6) ?_
      rintro _ _ ⟨s3, rfl, hA3, rfl, h⟩
      refine q_aload_n eX3_list_107 rfl ?_
      refine q_getR (c := 3) (n := 0) (k := 7) (a := 59) eX3_list_108 rfl (by decide) (by decide) fX3_29 rfl rfl ?_
      refine q_V0 (ci := 0) (n := 0) eX3_list_111 DX0_list lX3_56 rfl (by decide) rfl rfl rfl rfl (h.1 (by decide) hA3) ?_
      rintro _ _ ⟨s4, rfl, hA4, rfl, h⟩
      refine q_aload_n eX3_list_114 rfl ?_
      refine q_getR (c := 3) (n := 0) (k := 7) (a := 59) eX3_list_115 rfl (by decide) (by decide) fX3_29 rfl rfl ?_
      refine q_getf (c := 0) (n := 0) (k := 1) (v := .int (Int32.ofInt (s4.1 59 1))) eX3_list_118 rfl (by decide) (by decide) fX3_61 rfl ?_
      refine q_iz_ne (tgt := 153) (a := s4.1 59 1) eX3_list_121 (by decide) (ofz (hA4 _ _)) (fun c121 => ?_) (fun c121 => ?_)
      · have h := h.1 c121
        have r5 := h.1
        have h := h.2
        refine z_inc (m := 1) eX3_list_153 rfl (Nat.le_of_ble_eq_true rfl) rfl ?_
        refine q_goto (tgt := 75) eX3_list_156 (by decide) ?_
        exact q_subL rfl (h.1 hA4 hra3 hra4 hra5 r5)
      · have h := h.2 c121
        refine q_aload_n eX3_list_124 rfl ?_
        refine q_getR (c := 3) (n := 0) (k := 7) (a := 59) eX3_list_125 rfl (by decide) (by decide) fX3_29 rfl rfl ?_
        refine q_aload_n eX3_list_128 rfl ?_
        refine q_getR (c := 3) (n := 0) (k := 6) (a := 17) eX3_list_129 rfl (by decide) (by decide) fX3_25 rfl rfl ?_
        refine q_getR (c := 2) (n := 0) (k := 0) (a := 18) eX3_list_132 rfl (by decide) (by decide) fX3_64 rfl rfl ?_
        refine q_V0 (ci := 9) (n := 0) eX3_list_135 DX9_all lX3_65 rfl (by decide) rfl rfl rfl rfl (p_X9_all (by decide) hA4) ?_
        rintro _ _ ⟨rfl, rfl⟩
        refine q_V1 (ci := 0) (n := 0) eX3_list_138 DX0_clashOf lX3_69 rfl (by decide) rfl rfl rfl rfl (h.1 (by decide) hA4) ?_
        rintro _ _ ⟨s7, v7, rfl, hA7, b7, rfl, h⟩
        have h := h b7
        refine q_iz_ne (tgt := 153) (a := v7) eX3_list_141 (by decide) (ofz (r01 b7)) (fun c141 => ?_) (fun c141 => ?_)
        · have h := h.1 c141
          have r8 := h.1
          have h := h.2
          refine z_inc (m := 1) eX3_list_153 rfl (Nat.le_of_ble_eq_true rfl) rfl ?_
          refine q_goto (tgt := 75) eX3_list_156 (by decide) ?_
          exact q_subL rfl (h.1 hA7 hra3 hra4 hra5 r8)
        · have h := h.2 c141
          refine q_aload_n eX3_list_144 rfl ?_
          refine q_iload_n eX3_list_145 rfl ?_
          refine q_iload eX3_list_146 rfl ?_
          refine q_iload eX3_list_148 rfl ?_
          refine q_V3 (ci := 3) (n := 0) eX3_list_150 DX3_keep lX3_73 rfl (by decide) rfl rfl rfl rfl (h.1 hA7 hra3 hra4 hra6) ?_
          rintro _ _ ⟨s9, rfl, hA9, rfl, h⟩
          have r10 := h.1
          have h := h.2
          refine z_inc (m := 1) eX3_list_153 rfl (Nat.le_of_ble_eq_true rfl) rfl ?_
          refine q_goto (tgt := 75) eX3_list_156 (by decide) ?_
          exact q_subL rfl (h.1 hA9 hra3 hra4 hra5 r10)
set_option maxRecDepth 20000 in
theorem s_X3_list_40 {s : ST} {a1 : Int64} {a3 : Int} {a4 : Int} {Q : ST → Prop} (h : RA s → R32 a3 → R32 a4 → ((5 ≤ a4 → (R32 (a3 + 1) ∧ K_X3_list_20 s a1 (a3 + 1) Q)) ∧ (¬ 5 ≤ a4 → ((((lushr a1 a3) &&& 1) = 0 → (R32 (a3 + 1) ∧ K_X3_list_20 s a1 (a3 + 1) Q)) ∧ (¬ ((lushr a1 a3) &&& 1) = 0 → (C_X2_ways 2 s a3 a4 (fun s3 v3 => K_X3_list_75 s3 a1 a3 a4 v3 0 Q))))))) : K_X3_list_40 s a1 a3 a4 Q := by
  refine ⟨?_, trivial⟩
  intro hA hra3 hra4
  have h := h hA hra3 hra4
  refine q_iload eX3_list_40 rfl ?_
  refine q_ic (v := Int32.ofInt 5) eX3_list_42 rfl ?_
  refine q_cz_ge (tgt := 165) (a := a4) (b := 5) eX3_list_43 (by decide) (ofz hra4) (ofz (r32l rfl)) (fun c43 => ?_) (fun c43 => ?_)
  · have h := h.1 c43
    have r1 := h.1
    have h := h.2
    refine z_inc (m := 1) eX3_list_165 rfl (Nat.le_of_ble_eq_true rfl) rfl ?_
    refine q_goto (tgt := 20) eX3_list_168 (by decide) ?_
    exact q_subL rfl (h.1 hA r1)
  · have h := h.2 c43
    refine q_lload_n eX3_list_46 rfl ?_
    refine q_iload_n eX3_list_47 rfl ?_
    refine z_lushr eX3_list_48 ?_
    refine q_lc (v := 1) eX3_list_49 rfl ?_
    refine q_land eX3_list_50 ?_
    refine q_lc (v := 0) eX3_list_51 rfl ?_
    refine q_lcmp eX3_list_52 ?_
    refine z_lc_eq (tgt := 165) eX3_list_53 (by decide) (fun c53 => ?_) (fun c53 => ?_)
    · have h := h.1 c53
      have r2 := h.1
      have h := h.2
      refine z_inc (m := 1) eX3_list_165 rfl (Nat.le_of_ble_eq_true rfl) rfl ?_
      refine q_goto (tgt := 20) eX3_list_168 (by decide) ?_
      exact q_subL rfl (h.1 hA r2)
    · have h := h.2 c53
      refine q_aload_n eX3_list_56 rfl ?_
      refine q_getR (c := 3) (n := 0) (k := 6) (a := 17) eX3_list_57 rfl (by decide) (by decide) fX3_25 rfl rfl ?_
      refine q_aload_n eX3_list_60 rfl ?_
      refine q_getR (c := 3) (n := 0) (k := 5) (a := 2) eX3_list_61 rfl (by decide) (by decide) fX3_21 rfl rfl ?_
      refine q_iload_n eX3_list_64 rfl ?_
      refine q_iload eX3_list_65 rfl ?_
      refine q_V3 (ci := 2) (n := 0) eX3_list_67 DX2_ways lX3_46 rfl (by decide) rfl rfl rfl rfl (h.1 (by decide) hA hra3 hra4) ?_
      rintro _ _ ⟨s3, v3, rfl, hA3, r3, rfl, h⟩
      refine q_istore eX3_list_70 (Nat.le_of_ble_eq_true rfl) ?_
      refine q_ic (v := Int32.ofInt 0) eX3_list_72 rfl ?_
      refine q_istore eX3_list_73 (Nat.le_of_ble_eq_true rfl) ?_
      exact q_subL rfl (h.1 hA3 hra3 hra4 r3 (r32l rfl))
set_option maxRecDepth 20000 in
theorem s_X3_list_20 {s : ST} {a1 : Int64} {a3 : Int} {Q : ST → Prop} (h : RA s → R32 a3 → ((24 ≤ a3 → Q s) ∧ (¬ 24 ≤ a3 → ((s.1 2 1 ≤ a3 → Q s) ∧ (¬ s.1 2 1 ≤ a3 → K_X3_list_40 s a1 a3 0 Q))))) : K_X3_list_20 s a1 a3 Q := by
  refine ⟨?_, trivial⟩
  intro hA hra3
  have h := h hA hra3
  refine q_iload_n eX3_list_20 rfl ?_
  refine q_bi (v := Int32.ofInt 24) eX3_list_21 rfl ?_
  refine q_cz_ge (tgt := 171) (a := a3) (b := 24) eX3_list_23 (by decide) (ofz hra3) (ofz (r32l rfl)) (fun c23 => ?_) (fun c23 => ?_)
  · have h := h.1 c23
    exact q_ret eX3_list_171 rfl ⟨_, rfl, hA, rfl, h⟩
  · have h := h.2 c23
    refine q_iload_n eX3_list_26 rfl ?_
    refine q_aload_n eX3_list_27 rfl ?_
    refine q_getR (c := 3) (n := 0) (k := 5) (a := 2) eX3_list_28 rfl (by decide) (by decide) fX3_21 rfl rfl ?_
    refine q_getf (c := 9) (n := 0) (k := 1) (v := .int (Int32.ofInt (s.1 2 1))) eX3_list_31 rfl (by decide) (by decide) fX3_41 rfl ?_
    refine q_cz_ge (tgt := 171) (a := a3) (b := s.1 2 1) eX3_list_34 (by decide) (ofz hra3) (ofz (hA _ _)) (fun c34 => ?_) (fun c34 => ?_)
    · have h := h.1 c34
      exact q_ret eX3_list_171 rfl ⟨_, rfl, hA, rfl, h⟩
    · have h := h.2 c34
      refine q_ic (v := Int32.ofInt 0) eX3_list_37 rfl ?_
      refine q_istore eX3_list_38 (Nat.le_of_ble_eq_true rfl) ?_
      exact q_subL rfl (h.1 hA hra3 (r32l rfl))
set_option maxRecDepth 20000 in
theorem s_X3_list {s : ST} {p : Int64} {Q : ST → Prop} (h : RA s → ((s.1 76 0 = 0 → K_X3_list_20 (ui (ui s 76 0 1) 76 1 0) p 0 Q) ∧ (¬ s.1 76 0 = 0 → Q s))) : C_X3_list s p Q := by
  refine ⟨?_, trivial⟩
  intro hA
  have h := h hA
  refine q_enter (by decide) (Nat.le_of_ble_eq_true rfl) ?_
  refine q_aload_n eX3_list_0 rfl ?_
  refine q_getf (c := 3) (n := 0) (k := 0) (v := .int (Int32.ofInt (s.1 76 0))) eX3_list_1 rfl (by decide) (by decide) fX3_37 rfl ?_
  refine q_iz_eq (tgt := 8) (a := s.1 76 0) eX3_list_4 (by decide) (ofz (hA _ _)) (fun c4 => ?_) (fun c4 => ?_)
  · have h := h.1 c4
    refine q_aload_n eX3_list_8 rfl ?_
    refine q_ic (v := Int32.ofInt 1) eX3_list_9 rfl ?_
    refine z_putZ (c := 3) (n := 0) (k := 0) (kz := 0) eX3_list_10 rfl (by decide) (by decide) fX3_37 rfl rfl rfl (z01 (Or.inr rfl)) ?_
    refine q_aload_n eX3_list_13 rfl ?_
    refine q_ic (v := Int32.ofInt 0) eX3_list_14 rfl ?_
    refine z_putI (c := 3) (n := 0) (k := 1) (kz := 1) eX3_list_15 rfl (by decide) (by decide) fX3_33 rfl rfl rfl ?_
    refine q_ic (v := Int32.ofInt 0) eX3_list_18 rfl ?_
    refine q_istore_n eX3_list_19 (Nat.le_of_ble_eq_true rfl) ?_
    exact q_subL rfl (h.1 (ra_ui (ra_ui hA (r32l rfl)) (r32l rfl)) (r32l rfl))
  · have h := h.2 c4
    exact q_ret eX3_list_7 rfl ⟨_, rfl, hA, rfl, h⟩
theorem eX4_pileInOrder_0 : decode cX4_pileInOrder 0 = .ok (.aload_n 0, 1) := by decide +kernel
theorem eX4_pileInOrder_1 : decode cX4_pileInOrder 1 = .ok (.getfield 15, 3) := by decide +kernel
theorem eX4_pileInOrder_4 : decode cX4_pileInOrder 4 = .ok (.iload_n 1, 1) := by decide +kernel
theorem eX4_pileInOrder_5 : decode cX4_pileInOrder 5 = .ok (.iaload, 1) := by decide +kernel
theorem eX4_pileInOrder_6 : decode cX4_pileInOrder 6 = .ok (.invokestatic 55, 3) := by decide +kernel
theorem eX4_pileInOrder_9 : decode cX4_pileInOrder 9 = .ok (.istore_n 3, 1) := by decide +kernel
theorem eX4_pileInOrder_10 : decode cX4_pileInOrder 10 = .ok (.iload_n 2, 1) := by decide +kernel
theorem eX4_pileInOrder_11 : decode cX4_pileInOrder 11 = .ok (.ifCond .lt 18, 3) := by decide +kernel
theorem eX4_pileInOrder_14 : decode cX4_pileInOrder 14 = .ok (.iload_n 2, 1) := by decide +kernel
theorem eX4_pileInOrder_15 : decode cX4_pileInOrder 15 = .ok (.iconst 2, 1) := by decide +kernel
theorem eX4_pileInOrder_16 : decode cX4_pileInOrder 16 = .ok (.iadd, 1) := by decide +kernel
theorem eX4_pileInOrder_17 : decode cX4_pileInOrder 17 = .ok (.aload_n 0, 1) := by decide +kernel
theorem eX4_pileInOrder_18 : decode cX4_pileInOrder 18 = .ok (.getfield 27, 3) := by decide +kernel
theorem eX4_pileInOrder_21 : decode cX4_pileInOrder 21 = .ok (.arraylength, 1) := by decide +kernel
theorem eX4_pileInOrder_22 : decode cX4_pileInOrder 22 = .ok (.if_icmp .gt 7, 3) := by decide +kernel
theorem eX4_pileInOrder_25 : decode cX4_pileInOrder 25 = .ok (.iload_n 3, 1) := by decide +kernel
theorem eX4_pileInOrder_26 : decode cX4_pileInOrder 26 = .ok (.ifCond .ne 5, 3) := by decide +kernel
theorem eX4_pileInOrder_29 : decode cX4_pileInOrder 29 = .ok (.iload_n 2, 1) := by decide +kernel
theorem eX4_pileInOrder_30 : decode cX4_pileInOrder 30 = .ok (.ireturn, 1) := by decide +kernel
theorem eX4_pileInOrder_31 : decode cX4_pileInOrder 31 = .ok (.aload_n 0, 1) := by decide +kernel
theorem eX4_pileInOrder_32 : decode cX4_pileInOrder 32 = .ok (.getfield 27, 3) := by decide +kernel
theorem eX4_pileInOrder_35 : decode cX4_pileInOrder 35 = .ok (.iload_n 2, 1) := by decide +kernel
theorem eX4_pileInOrder_36 : decode cX4_pileInOrder 36 = .ok (.iload_n 3, 1) := by decide +kernel
theorem eX4_pileInOrder_37 : decode cX4_pileInOrder 37 = .ok (.iconst 2, 1) := by decide +kernel
theorem eX4_pileInOrder_38 : decode cX4_pileInOrder 38 = .ok (.if_icmp .ne 12, 3) := by decide +kernel
theorem eX4_pileInOrder_41 : decode cX4_pileInOrder 41 = .ok (.aload_n 0, 1) := by decide +kernel
theorem eX4_pileInOrder_42 : decode cX4_pileInOrder 42 = .ok (.getfield 21, 3) := by decide +kernel
theorem eX4_pileInOrder_45 : decode cX4_pileInOrder 45 = .ok (.iload_n 1, 1) := by decide +kernel
theorem eX4_pileInOrder_46 : decode cX4_pileInOrder 46 = .ok (.iaload, 1) := by decide +kernel
theorem eX4_pileInOrder_47 : decode cX4_pileInOrder 47 = .ok (.goto 9, 3) := by decide +kernel
theorem eX4_pileInOrder_50 : decode cX4_pileInOrder 50 = .ok (.aload_n 0, 1) := by decide +kernel
theorem eX4_pileInOrder_51 : decode cX4_pileInOrder 51 = .ok (.getfield 18, 3) := by decide +kernel
theorem eX4_pileInOrder_54 : decode cX4_pileInOrder 54 = .ok (.iload_n 1, 1) := by decide +kernel
theorem eX4_pileInOrder_55 : decode cX4_pileInOrder 55 = .ok (.iaload, 1) := by decide +kernel
theorem eX4_pileInOrder_56 : decode cX4_pileInOrder 56 = .ok (.iastore, 1) := by decide +kernel
theorem eX4_pileInOrder_57 : decode cX4_pileInOrder 57 = .ok (.iload_n 3, 1) := by decide +kernel
theorem eX4_pileInOrder_58 : decode cX4_pileInOrder 58 = .ok (.iconst 2, 1) := by decide +kernel
theorem eX4_pileInOrder_59 : decode cX4_pileInOrder 59 = .ok (.if_icmp .ne 17, 3) := by decide +kernel
theorem eX4_pileInOrder_62 : decode cX4_pileInOrder 62 = .ok (.aload_n 0, 1) := by decide +kernel
theorem eX4_pileInOrder_63 : decode cX4_pileInOrder 63 = .ok (.getfield 27, 3) := by decide +kernel
theorem eX4_pileInOrder_66 : decode cX4_pileInOrder 66 = .ok (.iload_n 2, 1) := by decide +kernel
theorem eX4_pileInOrder_67 : decode cX4_pileInOrder 67 = .ok (.iconst 1, 1) := by decide +kernel
theorem eX4_pileInOrder_68 : decode cX4_pileInOrder 68 = .ok (.iadd, 1) := by decide +kernel
theorem eX4_pileInOrder_69 : decode cX4_pileInOrder 69 = .ok (.aload_n 0, 1) := by decide +kernel
theorem eX4_pileInOrder_70 : decode cX4_pileInOrder 70 = .ok (.getfield 18, 3) := by decide +kernel
theorem eX4_pileInOrder_73 : decode cX4_pileInOrder 73 = .ok (.iload_n 1, 1) := by decide +kernel
theorem eX4_pileInOrder_74 : decode cX4_pileInOrder 74 = .ok (.iaload, 1) := by decide +kernel
theorem eX4_pileInOrder_75 : decode cX4_pileInOrder 75 = .ok (.iastore, 1) := by decide +kernel
theorem eX4_pileInOrder_76 : decode cX4_pileInOrder 76 = .ok (.iload_n 2, 1) := by decide +kernel
theorem eX4_pileInOrder_77 : decode cX4_pileInOrder 77 = .ok (.iload_n 3, 1) := by decide +kernel
theorem eX4_pileInOrder_78 : decode cX4_pileInOrder 78 = .ok (.iadd, 1) := by decide +kernel
theorem eX4_pileInOrder_79 : decode cX4_pileInOrder 79 = .ok (.ireturn, 1) := by decide +kernel
def C_X4_pileInOrder (s : ST) (p : Int) (q : Int) (Q : ST → Int → Prop) : Prop := bx <| RA s → R32 p → R32 q → q_met mX4_pileInOrder (qs layX s) [.ref 38, .int (Int32.ofInt p), .int (Int32.ofInt q)] (PI layX Q)
theorem C_X4_pileInOrder.mono {s : ST} {p : Int} {q : Int} {Q Q' : ST → Int → Prop} (h : C_X4_pileInOrder s p q Q) (hq : ∀ s v, Q s v → Q' s v) : C_X4_pileInOrder s p q Q' := ⟨fun hA hrp hrq => q_met.mono (h.1 hA hrp hrq) (fun _ _ => PI.mono hq), trivial⟩
def K_X4_pileInOrder_56 (s : ST) (a1 : Int) (a2 : Int) (a3 : Int) (t1 : Int) (t2 : Int) (Q : ST → Int → Prop) : Prop := bx <| RA s → R32 a1 → R32 a2 → R32 a3 → R32 t1 → R32 t2 → q_K mX4_pileInOrder (qs layX s) 0 0 56 [(0, .ref 38), (1, .int (Int32.ofInt a1)), (2, .int (Int32.ofInt a2)), (3, .int (Int32.ofInt a3))] [.int (Int32.ofInt t2), .int (Int32.ofInt t1), .ref 44] (q_fin mX4_pileInOrder (PI layX Q))
set_option maxRecDepth 20000 in
theorem s_X4_pileInOrder_56 {s : ST} {a1 : Int} {a2 : Int} {a3 : Int} {t1 : Int} {t2 : Int} {Q : ST → Int → Prop} (h : RA s → R32 a1 → R32 a2 → R32 a3 → R32 t1 → R32 t2 → (((0 : Int) ≤ t1 ∧ t1 < 5604) ∧ ((¬ a3 = 2 → (R32 (a2 + a3) ∧ Q (ui s 44 t1 t2) (a2 + a3))) ∧ (a3 = 2 → (R32 (a2 + 1) ∧ (((0 : Int) ≤ a1 ∧ a1 < 5602) ∧ (((0 : Int) ≤ (a2 + 1) ∧ (a2 + 1) < 5604) ∧ (R32 (a2 + a3) ∧ Q (ui (ui s 44 t1 t2) 44 (a2 + 1) (s.1 41 a1)) (a2 + a3))))))))) : K_X4_pileInOrder_56 s a1 a2 a3 t1 t2 Q := by
  refine ⟨?_, trivial⟩
  intro hA hra1 hra2 hra3 hrt1 hrt2
  have h := h hA hra1 hra2 hra3 hrt1 hrt2
  have f1 := h.1
  have h := h.2
  refine z_iast (n := 5604) eX4_pileInOrder_56 rfl (ofz hrt1) f1  ?_
  refine q_iload_n eX4_pileInOrder_57 rfl ?_
  refine q_ic (v := Int32.ofInt 2) eX4_pileInOrder_58 rfl ?_
  refine q_cz_ne (tgt := 76) (a := a3) (b := 2) eX4_pileInOrder_59 (by decide) (ofz hra3) (ofz (r32l rfl)) (fun c59 => ?_) (fun c59 => ?_)
  · have h := h.1 c59
    refine q_iload_n eX4_pileInOrder_76 rfl ?_
    refine q_iload_n eX4_pileInOrder_77 rfl ?_
    refine z_iadd eX4_pileInOrder_78 ?_
    have r2 := h.1
    have h := h.2
    exact q_iret eX4_pileInOrder_79 rfl ⟨_, _, rfl, (ra_ui hA hrt2), r2, rfl, h⟩
  · have h := h.2 c59
    refine q_aload_n eX4_pileInOrder_62 rfl ?_
    refine q_getR (c := 4) (n := 0) (k := 8) (a := 44) eX4_pileInOrder_63 rfl (by decide) (by decide) fX4_27 rfl rfl ?_
    refine q_iload_n eX4_pileInOrder_66 rfl ?_
    refine q_ic (v := Int32.ofInt 1) eX4_pileInOrder_67 rfl ?_
    refine z_iadd eX4_pileInOrder_68 ?_
    have r3 := h.1
    have h := h.2
    refine q_aload_n eX4_pileInOrder_69 rfl ?_
    refine q_getR (c := 4) (n := 0) (k := 5) (a := 41) eX4_pileInOrder_70 rfl (by decide) (by decide) fX4_18 rfl rfl ?_
    refine q_iload_n eX4_pileInOrder_73 rfl ?_
    have f4 := h.1
    have h := h.2
    refine z_iald (n := 5602) eX4_pileInOrder_74 rfl (ofz hra1) f4 ?_
    refine q_topI (v := Int32.ofInt (s.1 41 a1)) rfl ?_
    have f5 := h.1
    have h := h.2
    refine z_iast (n := 5604) eX4_pileInOrder_75 rfl (ofz r3) f5  ?_
    refine q_iload_n eX4_pileInOrder_76 rfl ?_
    refine q_iload_n eX4_pileInOrder_77 rfl ?_
    refine z_iadd eX4_pileInOrder_78 ?_
    have r6 := h.1
    have h := h.2
    exact q_iret eX4_pileInOrder_79 rfl ⟨_, _, rfl, (ra_ui (ra_ui hA hrt2) (hA _ _)), r6, rfl, h⟩
set_option maxRecDepth 20000 in
theorem s_X4_pileInOrder {s : ST} {p : Int} {q : Int} {Q : ST → Int → Prop} (h : RA s → R32 p → R32 q → (((0 : Int) ≤ p ∧ p < 5602) ∧ (P_X10_kindArity s (s.1 40 p) ∧ ((q < 0 → Q s q) ∧ (¬ q < 0 → (R32 (q + 2) ∧ ((5604 < (q + 2) → Q s q) ∧ (¬ 5604 < (q + 2) → ((¬ (F_X10_kindArity s (s.1 40 p)) = 0 → ((¬ (F_X10_kindArity s (s.1 40 p)) = 2 → K_X4_pileInOrder_56 s p q (F_X10_kindArity s (s.1 40 p)) q (s.1 41 p) Q) ∧ ((F_X10_kindArity s (s.1 40 p)) = 2 → K_X4_pileInOrder_56 s p q (F_X10_kindArity s (s.1 40 p)) q (s.1 42 p) Q))) ∧ ((F_X10_kindArity s (s.1 40 p)) = 0 → Q s q)))))))))) : C_X4_pileInOrder s p q Q := by
  refine ⟨?_, trivial⟩
  intro hA hrp hrq
  have h := h hA hrp hrq
  refine q_enter (by decide) (Nat.le_of_ble_eq_true rfl) ?_
  refine q_aload_n eX4_pileInOrder_0 rfl ?_
  refine q_getR (c := 4) (n := 0) (k := 4) (a := 40) eX4_pileInOrder_1 rfl (by decide) (by decide) fX4_15 rfl rfl ?_
  refine q_iload_n eX4_pileInOrder_4 rfl ?_
  have f1 := h.1
  have h := h.2
  refine z_iald (n := 5602) eX4_pileInOrder_5 rfl (ofz hrp) f1 ?_
  refine q_topI (v := Int32.ofInt (s.1 40 p)) rfl ?_
  have f3 := h.1
  have h := h.2
  refine q_SN1 (host := "WhyNot") eX4_pileInOrder_6 DX10_kindArity (by decide) rfl rfl rfl (p_X10_kindArity f3 hA (hA _ _)) ?_
  rintro _ _ ⟨r2, rfl, rfl⟩
  refine q_istore_n eX4_pileInOrder_9 (Nat.le_of_ble_eq_true rfl) ?_
  refine q_iload_n eX4_pileInOrder_10 rfl ?_
  refine q_iz_lt (tgt := 29) (a := q) eX4_pileInOrder_11 (by decide) (ofz hrq) (fun c11 => ?_) (fun c11 => ?_)
  · have h := h.1 c11
    refine q_iload_n eX4_pileInOrder_29 rfl ?_
    exact q_iret eX4_pileInOrder_30 rfl ⟨_, _, rfl, hA, hrq, rfl, h⟩
  · have h := h.2 c11
    refine q_iload_n eX4_pileInOrder_14 rfl ?_
    refine q_ic (v := Int32.ofInt 2) eX4_pileInOrder_15 rfl ?_
    refine z_iadd eX4_pileInOrder_16 ?_
    have r4 := h.1
    have h := h.2
    refine q_aload_n eX4_pileInOrder_17 rfl ?_
    refine q_getR (c := 4) (n := 0) (k := 8) (a := 44) eX4_pileInOrder_18 rfl (by decide) (by decide) fX4_27 rfl rfl ?_
    refine q_alenz (v := Int32.ofInt 5604) eX4_pileInOrder_21 rfl rfl rfl ?_
    refine q_cz_gt (tgt := 29) (a := (q + 2)) (b := 5604) eX4_pileInOrder_22 (by decide) (ofz r4) (ofz (r32l rfl)) (fun c22 => ?_) (fun c22 => ?_)
    · have h := h.1 c22
      refine q_iload_n eX4_pileInOrder_29 rfl ?_
      exact q_iret eX4_pileInOrder_30 rfl ⟨_, _, rfl, hA, hrq, rfl, h⟩
    · have h := h.2 c22
      refine q_iload_n eX4_pileInOrder_25 rfl ?_
      refine q_iz_ne (tgt := 31) (a := (F_X10_kindArity s (s.1 40 p))) eX4_pileInOrder_26 (by decide) (ofz r2) (fun c26 => ?_) (fun c26 => ?_)
      · have h := h.1 c26
        refine q_aload_n eX4_pileInOrder_31 rfl ?_
        refine q_getR (c := 4) (n := 0) (k := 8) (a := 44) eX4_pileInOrder_32 rfl (by decide) (by decide) fX4_27 rfl rfl ?_
        refine q_iload_n eX4_pileInOrder_35 rfl ?_
        refine q_iload_n eX4_pileInOrder_36 rfl ?_
        refine q_ic (v := Int32.ofInt 2) eX4_pileInOrder_37 rfl ?_
        refine q_cz_ne (tgt := 50) (a := (F_X10_kindArity s (s.1 40 p))) (b := 2) eX4_pileInOrder_38 (by decide) (ofz r2) (ofz (r32l rfl)) (fun c38 => ?_) (fun c38 => ?_)
        · have h := h.1 c38
          refine q_aload_n eX4_pileInOrder_50 rfl ?_
          refine q_getR (c := 4) (n := 0) (k := 5) (a := 41) eX4_pileInOrder_51 rfl (by decide) (by decide) fX4_18 rfl rfl ?_
          refine q_iload_n eX4_pileInOrder_54 rfl ?_
          refine z_iald (n := 5602) eX4_pileInOrder_55 rfl (ofz hrp) f1 ?_
          refine q_topI (v := Int32.ofInt (s.1 41 p)) rfl ?_
          exact q_subL rfl (h.1 hA hrp hrq r2 hrq (hA _ _))
        · have h := h.2 c38
          refine q_aload_n eX4_pileInOrder_41 rfl ?_
          refine q_getR (c := 4) (n := 0) (k := 6) (a := 42) eX4_pileInOrder_42 rfl (by decide) (by decide) fX4_21 rfl rfl ?_
          refine q_iload_n eX4_pileInOrder_45 rfl ?_
          refine z_iald (n := 5602) eX4_pileInOrder_46 rfl (ofz hrp) f1 ?_
          refine q_topI (v := Int32.ofInt (s.1 42 p)) rfl ?_
          refine q_goto (tgt := 56) eX4_pileInOrder_47 (by decide) ?_
          exact q_subL rfl (h.1 hA hrp hrq r2 hrq (hA _ _))
      · have h := h.2 c26
        refine q_iload_n eX4_pileInOrder_29 rfl ?_
        exact q_iret eX4_pileInOrder_30 rfl ⟨_, _, rfl, hA, hrq, rfl, h⟩
theorem eX4_numberAt_0 : decode cX4_numberAt 0 = .ok (.iconst 0, 1) := by decide +kernel
theorem eX4_numberAt_1 : decode cX4_numberAt 1 = .ok (.istore_n 3, 1) := by decide +kernel
theorem eX4_numberAt_2 : decode cX4_numberAt 2 = .ok (.iload_n 3, 1) := by decide +kernel
theorem eX4_numberAt_3 : decode cX4_numberAt 3 = .ok (.aload_n 0, 1) := by decide +kernel
theorem eX4_numberAt_4 : decode cX4_numberAt 4 = .ok (.getfield 33, 3) := by decide +kernel
theorem eX4_numberAt_7 : decode cX4_numberAt 7 = .ok (.if_icmp .ge 23, 3) := by decide +kernel
theorem eX4_numberAt_10 : decode cX4_numberAt 10 = .ok (.iload_n 3, 1) := by decide +kernel
theorem eX4_numberAt_11 : decode cX4_numberAt 11 = .ok (.sipush 5602, 3) := by decide +kernel
theorem eX4_numberAt_14 : decode cX4_numberAt 14 = .ok (.if_icmp .ge 16, 3) := by decide +kernel
theorem eX4_numberAt_17 : decode cX4_numberAt 17 = .ok (.aload_n 0, 1) := by decide +kernel
theorem eX4_numberAt_18 : decode cX4_numberAt 18 = .ok (.getfield 24, 3) := by decide +kernel
theorem eX4_numberAt_21 : decode cX4_numberAt 21 = .ok (.iload_n 3, 1) := by decide +kernel
theorem eX4_numberAt_22 : decode cX4_numberAt 22 = .ok (.iconst 0, 1) := by decide +kernel
theorem eX4_numberAt_23 : decode cX4_numberAt 23 = .ok (.iastore, 1) := by decide +kernel
theorem eX4_numberAt_24 : decode cX4_numberAt 24 = .ok (.iinc 3 1, 3) := by decide +kernel
theorem eX4_numberAt_27 : decode cX4_numberAt 27 = .ok (.goto (-25), 3) := by decide +kernel
theorem eX4_numberAt_30 : decode cX4_numberAt 30 = .ok (.iconst 0, 1) := by decide +kernel
theorem eX4_numberAt_31 : decode cX4_numberAt 31 = .ok (.istore_n 3, 1) := by decide +kernel
theorem eX4_numberAt_32 : decode cX4_numberAt 32 = .ok (.iconst 1, 1) := by decide +kernel
theorem eX4_numberAt_33 : decode cX4_numberAt 33 = .ok (.istore 4, 2) := by decide +kernel
theorem eX4_numberAt_35 : decode cX4_numberAt 35 = .ok (.aload_n 0, 1) := by decide +kernel
theorem eX4_numberAt_36 : decode cX4_numberAt 36 = .ok (.getfield 27, 3) := by decide +kernel
theorem eX4_numberAt_39 : decode cX4_numberAt 39 = .ok (.iconst 0, 1) := by decide +kernel
theorem eX4_numberAt_40 : decode cX4_numberAt 40 = .ok (.iload_n 1, 1) := by decide +kernel
theorem eX4_numberAt_41 : decode cX4_numberAt 41 = .ok (.iastore, 1) := by decide +kernel
theorem eX4_numberAt_42 : decode cX4_numberAt 42 = .ok (.iconst 0, 1) := by decide +kernel
theorem eX4_numberAt_43 : decode cX4_numberAt 43 = .ok (.istore 5, 2) := by decide +kernel
theorem eX4_numberAt_45 : decode cX4_numberAt 45 = .ok (.iload 5, 2) := by decide +kernel
theorem eX4_numberAt_47 : decode cX4_numberAt 47 = .ok (.iload_n 2, 1) := by decide +kernel
theorem eX4_numberAt_48 : decode cX4_numberAt 48 = .ok (.if_icmp .gt 136, 3) := by decide +kernel
theorem eX4_numberAt_51 : decode cX4_numberAt 51 = .ok (.iload 5, 2) := by decide +kernel
theorem eX4_numberAt_53 : decode cX4_numberAt 53 = .ok (.sipush 500, 3) := by decide +kernel
theorem eX4_numberAt_56 : decode cX4_numberAt 56 = .ok (.if_icmp .ge 128, 3) := by decide +kernel
theorem eX4_numberAt_59 : decode cX4_numberAt 59 = .ok (.iload 4, 2) := by decide +kernel
theorem eX4_numberAt_61 : decode cX4_numberAt 61 = .ok (.ifCond .le 123, 3) := by decide +kernel
theorem eX4_numberAt_64 : decode cX4_numberAt 64 = .ok (.iload 4, 2) := by decide +kernel
theorem eX4_numberAt_66 : decode cX4_numberAt 66 = .ok (.aload_n 0, 1) := by decide +kernel
theorem eX4_numberAt_67 : decode cX4_numberAt 67 = .ok (.getfield 27, 3) := by decide +kernel
theorem eX4_numberAt_70 : decode cX4_numberAt 70 = .ok (.arraylength, 1) := by decide +kernel
theorem eX4_numberAt_71 : decode cX4_numberAt 71 = .ok (.if_icmp .gt 113, 3) := by decide +kernel
theorem eX4_numberAt_74 : decode cX4_numberAt 74 = .ok (.iinc 4 (-1), 3) := by decide +kernel
theorem eX4_numberAt_77 : decode cX4_numberAt 77 = .ok (.aload_n 0, 1) := by decide +kernel
theorem eX4_numberAt_78 : decode cX4_numberAt 78 = .ok (.aload_n 0, 1) := by decide +kernel
theorem eX4_numberAt_79 : decode cX4_numberAt 79 = .ok (.getfield 27, 3) := by decide +kernel
theorem eX4_numberAt_82 : decode cX4_numberAt 82 = .ok (.iload 4, 2) := by decide +kernel
theorem eX4_numberAt_84 : decode cX4_numberAt 84 = .ok (.iaload, 1) := by decide +kernel
theorem eX4_numberAt_85 : decode cX4_numberAt 85 = .ok (.invokevirtual 48, 3) := by decide +kernel
theorem eX4_numberAt_88 : decode cX4_numberAt 88 = .ok (.istore 6, 2) := by decide +kernel
theorem eX4_numberAt_90 : decode cX4_numberAt 90 = .ok (.iload 6, 2) := by decide +kernel
theorem eX4_numberAt_92 : decode cX4_numberAt 92 = .ok (.iconst (-1), 1) := by decide +kernel
theorem eX4_numberAt_93 : decode cX4_numberAt 93 = .ok (.if_icmp .ne 5, 3) := by decide +kernel
theorem eX4_numberAt_96 : decode cX4_numberAt 96 = .ok (.iconst (-1), 1) := by decide +kernel
theorem eX4_numberAt_97 : decode cX4_numberAt 97 = .ok (.ireturn, 1) := by decide +kernel
theorem eX4_numberAt_98 : decode cX4_numberAt 98 = .ok (.aload_n 0, 1) := by decide +kernel
theorem eX4_numberAt_99 : decode cX4_numberAt 99 = .ok (.getfield 15, 3) := by decide +kernel
theorem eX4_numberAt_102 : decode cX4_numberAt 102 = .ok (.iload 6, 2) := by decide +kernel
theorem eX4_numberAt_104 : decode cX4_numberAt 104 = .ok (.iaload, 1) := by decide +kernel
theorem eX4_numberAt_105 : decode cX4_numberAt 105 = .ok (.iconst 5, 1) := by decide +kernel
theorem eX4_numberAt_106 : decode cX4_numberAt 106 = .ok (.if_icmp .ne 27, 3) := by decide +kernel
theorem eX4_numberAt_109 : decode cX4_numberAt 109 = .ok (.aload_n 0, 1) := by decide +kernel
theorem eX4_numberAt_110 : decode cX4_numberAt 110 = .ok (.getfield 24, 3) := by decide +kernel
theorem eX4_numberAt_113 : decode cX4_numberAt 113 = .ok (.iload 6, 2) := by decide +kernel
theorem eX4_numberAt_115 : decode cX4_numberAt 115 = .ok (.iaload, 1) := by decide +kernel
theorem eX4_numberAt_116 : decode cX4_numberAt 116 = .ok (.ifCond .ne 17, 3) := by decide +kernel
theorem eX4_numberAt_119 : decode cX4_numberAt 119 = .ok (.aload_n 0, 1) := by decide +kernel
theorem eX4_numberAt_120 : decode cX4_numberAt 120 = .ok (.getfield 24, 3) := by decide +kernel
theorem eX4_numberAt_123 : decode cX4_numberAt 123 = .ok (.iload 6, 2) := by decide +kernel
theorem eX4_numberAt_125 : decode cX4_numberAt 125 = .ok (.bipush 10, 2) := by decide +kernel
theorem eX4_numberAt_127 : decode cX4_numberAt 127 = .ok (.iload_n 3, 1) := by decide +kernel
theorem eX4_numberAt_128 : decode cX4_numberAt 128 = .ok (.iadd, 1) := by decide +kernel
theorem eX4_numberAt_129 : decode cX4_numberAt 129 = .ok (.iastore, 1) := by decide +kernel
theorem eX4_numberAt_130 : decode cX4_numberAt 130 = .ok (.iinc 3 1, 3) := by decide +kernel
theorem eX4_numberAt_133 : decode cX4_numberAt 133 = .ok (.iload 5, 2) := by decide +kernel
theorem eX4_numberAt_135 : decode cX4_numberAt 135 = .ok (.iload_n 2, 1) := by decide +kernel
theorem eX4_numberAt_136 : decode cX4_numberAt 136 = .ok (.if_icmp .ne 32, 3) := by decide +kernel
theorem eX4_numberAt_139 : decode cX4_numberAt 139 = .ok (.aload_n 0, 1) := by decide +kernel
theorem eX4_numberAt_140 : decode cX4_numberAt 140 = .ok (.getfield 15, 3) := by decide +kernel
theorem eX4_numberAt_143 : decode cX4_numberAt 143 = .ok (.iload 6, 2) := by decide +kernel
theorem eX4_numberAt_145 : decode cX4_numberAt 145 = .ok (.iaload, 1) := by decide +kernel
theorem eX4_numberAt_146 : decode cX4_numberAt 146 = .ok (.iconst 5, 1) := by decide +kernel
theorem eX4_numberAt_147 : decode cX4_numberAt 147 = .ok (.if_icmp .ne 13, 3) := by decide +kernel
theorem eX4_numberAt_150 : decode cX4_numberAt 150 = .ok (.aload_n 0, 1) := by decide +kernel
theorem eX4_numberAt_151 : decode cX4_numberAt 151 = .ok (.getfield 24, 3) := by decide +kernel
theorem eX4_numberAt_154 : decode cX4_numberAt 154 = .ok (.iload 6, 2) := by decide +kernel
theorem eX4_numberAt_156 : decode cX4_numberAt 156 = .ok (.iaload, 1) := by decide +kernel
theorem eX4_numberAt_157 : decode cX4_numberAt 157 = .ok (.goto 10, 3) := by decide +kernel
theorem eX4_numberAt_160 : decode cX4_numberAt 160 = .ok (.aload_n 0, 1) := by decide +kernel
theorem eX4_numberAt_161 : decode cX4_numberAt 161 = .ok (.getfield 15, 3) := by decide +kernel
theorem eX4_numberAt_164 : decode cX4_numberAt 164 = .ok (.iload 6, 2) := by decide +kernel
theorem eX4_numberAt_166 : decode cX4_numberAt 166 = .ok (.iaload, 1) := by decide +kernel
theorem eX4_numberAt_167 : decode cX4_numberAt 167 = .ok (.ireturn, 1) := by decide +kernel
theorem eX4_numberAt_168 : decode cX4_numberAt 168 = .ok (.aload_n 0, 1) := by decide +kernel
theorem eX4_numberAt_169 : decode cX4_numberAt 169 = .ok (.iload 6, 2) := by decide +kernel
theorem eX4_numberAt_171 : decode cX4_numberAt 171 = .ok (.iload 4, 2) := by decide +kernel
theorem eX4_numberAt_173 : decode cX4_numberAt 173 = .ok (.invokevirtual 66, 3) := by decide +kernel
theorem eX4_numberAt_176 : decode cX4_numberAt 176 = .ok (.istore 4, 2) := by decide +kernel
theorem eX4_numberAt_178 : decode cX4_numberAt 178 = .ok (.iinc 5 1, 3) := by decide +kernel
theorem eX4_numberAt_181 : decode cX4_numberAt 181 = .ok (.goto (-136), 3) := by decide +kernel
theorem eX4_numberAt_184 : decode cX4_numberAt 184 = .ok (.iconst (-1), 1) := by decide +kernel
theorem eX4_numberAt_185 : decode cX4_numberAt 185 = .ok (.ireturn, 1) := by decide +kernel
def C_X4_numberAt (s : ST) (p : Int) (q : Int) (Q : ST → Int → Prop) : Prop := bx <| RA s → R32 p → R32 q → q_met mX4_numberAt (qs layX s) [.ref 38, .int (Int32.ofInt p), .int (Int32.ofInt q)] (PI layX Q)
theorem C_X4_numberAt.mono {s : ST} {p : Int} {q : Int} {Q Q' : ST → Int → Prop} (h : C_X4_numberAt s p q Q) (hq : ∀ s v, Q s v → Q' s v) : C_X4_numberAt s p q Q' := ⟨fun hA hrp hrq => q_met.mono (h.1 hA hrp hrq) (fun _ _ => PI.mono hq), trivial⟩
def K_X4_numberAt_133 (s : ST) (a2 : Int) (a3 : Int) (a4 : Int) (a5 : Int) (a6 : Int) (Q : ST → Int → Prop) : Prop := bx <| RA s → R32 a2 → R32 a3 → R32 a4 → R32 a5 → R32 a6 → q_K mX4_numberAt (qs layX s) 0 0 133 [(0, .ref 38), (2, .int (Int32.ofInt a2)), (3, .int (Int32.ofInt a3)), (4, .int (Int32.ofInt a4)), (5, .int (Int32.ofInt a5)), (6, .int (Int32.ofInt a6))] [] (q_fin mX4_numberAt (PI layX Q))
def K_X4_numberAt_45 (s : ST) (a2 : Int) (a3 : Int) (a4 : Int) (a5 : Int) (Q : ST → Int → Prop) : Prop := bx <| RA s → R32 a2 → R32 a3 → R32 a4 → R32 a5 → q_K mX4_numberAt (qs layX s) 0 0 45 [(0, .ref 38), (2, .int (Int32.ofInt a2)), (3, .int (Int32.ofInt a3)), (4, .int (Int32.ofInt a4)), (5, .int (Int32.ofInt a5))] [] (q_fin mX4_numberAt (PI layX Q))
def K_X4_numberAt_30 (s : ST) (a1 : Int) (a2 : Int) (Q : ST → Int → Prop) : Prop := bx <| RA s → R32 a1 → R32 a2 → q_K mX4_numberAt (qs layX s) 0 0 30 [(0, .ref 38), (1, .int (Int32.ofInt a1)), (2, .int (Int32.ofInt a2))] [] (q_fin mX4_numberAt (PI layX Q))
def K_X4_numberAt_2 (s : ST) (a1 : Int) (a2 : Int) (a3 : Int) (Q : ST → Int → Prop) : Prop := bx <| RA s → R32 a1 → R32 a2 → R32 a3 → q_K mX4_numberAt (qs layX s) 0 0 2 [(0, .ref 38), (1, .int (Int32.ofInt a1)), (2, .int (Int32.ofInt a2)), (3, .int (Int32.ofInt a3))] [] (q_fin mX4_numberAt (PI layX Q))
set_option maxRecDepth 20000 in
theorem s_X4_numberAt_133 {s : ST} {a2 : Int} {a3 : Int} {a4 : Int} {a5 : Int} {a6 : Int} {Q : ST → Int → Prop} (h : RA s → R32 a2 → R32 a3 → R32 a4 → R32 a5 → R32 a6 → ((¬ a5 = a2 → (C_X4_pileInOrder s a6 a4 (fun s1 v1 => (R32 (a5 + 1) ∧ K_X4_numberAt_45 s1 a2 a3 v1 (a5 + 1) Q)))) ∧ (a5 = a2 → (((0 : Int) ≤ a6 ∧ a6 < 5602) ∧ ((¬ s.1 40 a6 = 5 → Q s (s.1 40 a6)) ∧ (s.1 40 a6 = 5 → Q s (s.1 43 a6))))))) : K_X4_numberAt_133 s a2 a3 a4 a5 a6 Q := by
  refine ⟨?_, trivial⟩
  intro hA hra2 hra3 hra4 hra5 hra6
  have h := h hA hra2 hra3 hra4 hra5 hra6
  refine q_iload eX4_numberAt_133 rfl ?_
  refine q_iload_n eX4_numberAt_135 rfl ?_
  refine q_cz_ne (tgt := 168) (a := a5) (b := a2) eX4_numberAt_136 (by decide) (ofz hra5) (ofz hra2) (fun c136 => ?_) (fun c136 => ?_)
  · have h := h.1 c136
    refine q_aload_n eX4_numberAt_168 rfl ?_
    refine q_iload eX4_numberAt_169 rfl ?_
    refine q_iload eX4_numberAt_171 rfl ?_
    refine q_V2 (ci := 4) (n := 0) eX4_numberAt_173 DX4_pileInOrder lX4_66 rfl (by decide) rfl rfl rfl rfl (h.1 hA hra6 hra4) ?_
    rintro _ _ ⟨s1, v1, rfl, hA1, r1, rfl, h⟩
    refine q_istore eX4_numberAt_176 (Nat.le_of_ble_eq_true rfl) ?_
    have r2 := h.1
    have h := h.2
    refine z_inc (m := 1) eX4_numberAt_178 rfl (Nat.le_of_ble_eq_true rfl) rfl ?_
    refine q_goto (tgt := 45) eX4_numberAt_181 (by decide) ?_
    exact q_subL rfl (h.1 hA1 hra2 hra3 r1 r2)
  · have h := h.2 c136
    refine q_aload_n eX4_numberAt_139 rfl ?_
    refine q_getR (c := 4) (n := 0) (k := 4) (a := 40) eX4_numberAt_140 rfl (by decide) (by decide) fX4_15 rfl rfl ?_
    refine q_iload eX4_numberAt_143 rfl ?_
    have f3 := h.1
    have h := h.2
    refine z_iald (n := 5602) eX4_numberAt_145 rfl (ofz hra6) f3 ?_
    refine q_topI (v := Int32.ofInt (s.1 40 a6)) rfl ?_
    refine q_ic (v := Int32.ofInt 5) eX4_numberAt_146 rfl ?_
    refine q_cz_ne (tgt := 160) (a := s.1 40 a6) (b := 5) eX4_numberAt_147 (by decide) (ofz (hA _ _)) (ofz (r32l rfl)) (fun c147 => ?_) (fun c147 => ?_)
    · have h := h.1 c147
      refine q_aload_n eX4_numberAt_160 rfl ?_
      refine q_getR (c := 4) (n := 0) (k := 4) (a := 40) eX4_numberAt_161 rfl (by decide) (by decide) fX4_15 rfl rfl ?_
      refine q_iload eX4_numberAt_164 rfl ?_
      refine z_iald (n := 5602) eX4_numberAt_166 rfl (ofz hra6) f3 ?_
      refine q_topI (v := Int32.ofInt (s.1 40 a6)) rfl ?_
      exact q_iret eX4_numberAt_167 rfl ⟨_, _, rfl, hA, (hA _ _), rfl, h⟩
    · have h := h.2 c147
      refine q_aload_n eX4_numberAt_150 rfl ?_
      refine q_getR (c := 4) (n := 0) (k := 7) (a := 43) eX4_numberAt_151 rfl (by decide) (by decide) fX4_24 rfl rfl ?_
      refine q_iload eX4_numberAt_154 rfl ?_
      refine z_iald (n := 5602) eX4_numberAt_156 rfl (ofz hra6) f3 ?_
      refine q_topI (v := Int32.ofInt (s.1 43 a6)) rfl ?_
      refine q_goto (tgt := 167) eX4_numberAt_157 (by decide) ?_
      exact q_iret eX4_numberAt_167 rfl ⟨_, _, rfl, hA, (hA _ _), rfl, h⟩
set_option maxRecDepth 20000 in
theorem s_X4_numberAt_45 {s : ST} {a2 : Int} {a3 : Int} {a4 : Int} {a5 : Int} {Q : ST → Int → Prop} (h : RA s → R32 a2 → R32 a3 → R32 a4 → R32 a5 → ((a2 < a5 → Q s (-1)) ∧ (¬ a2 < a5 → ((500 ≤ a5 → Q s (-1)) ∧ (¬ 500 ≤ a5 → ((a4 ≤ 0 → Q s (-1)) ∧ (¬ a4 ≤ 0 → ((5604 < a4 → Q s (-1)) ∧ (¬ 5604 < a4 → (R32 (a4 - 1) ∧ (((0 : Int) ≤ (a4 - 1) ∧ (a4 - 1) < 5604) ∧ (C_X4_chief s (s.1 44 (a4 - 1)) (fun s3 v3 => ((¬ v3 = (-1) → (((0 : Int) ≤ v3 ∧ v3 < 5602) ∧ ((¬ s3.1 40 v3 = 5 → K_X4_numberAt_133 s3 a2 a3 (a4 - 1) a5 v3 Q) ∧ (s3.1 40 v3 = 5 → ((¬ s3.1 43 v3 = 0 → K_X4_numberAt_133 s3 a2 a3 (a4 - 1) a5 v3 Q) ∧ (s3.1 43 v3 = 0 → (R32 (10 + a3) ∧ (R32 (a3 + 1) ∧ K_X4_numberAt_133 (ui s3 43 v3 (10 + a3)) a2 (a3 + 1) (a4 - 1) a5 v3 Q)))))))) ∧ (v3 = (-1) → Q s3 (-1)))))))))))))))) : K_X4_numberAt_45 s a2 a3 a4 a5 Q := by
  refine ⟨?_, trivial⟩
  intro hA hra2 hra3 hra4 hra5
  have h := h hA hra2 hra3 hra4 hra5
  refine q_iload eX4_numberAt_45 rfl ?_
  refine q_iload_n eX4_numberAt_47 rfl ?_
  refine q_cz_gt (tgt := 184) (a := a5) (b := a2) eX4_numberAt_48 (by decide) (ofz hra5) (ofz hra2) (fun c48 => ?_) (fun c48 => ?_)
  · have h := h.1 c48
    refine q_ic (v := Int32.ofInt (-1)) eX4_numberAt_184 rfl ?_
    exact q_iret eX4_numberAt_185 rfl ⟨_, _, rfl, hA, (r32l rfl), rfl, h⟩
  · have h := h.2 c48
    refine q_iload eX4_numberAt_51 rfl ?_
    refine q_si (v := Int32.ofInt 500) eX4_numberAt_53 rfl ?_
    refine q_cz_ge (tgt := 184) (a := a5) (b := 500) eX4_numberAt_56 (by decide) (ofz hra5) (ofz (r32l rfl)) (fun c56 => ?_) (fun c56 => ?_)
    · have h := h.1 c56
      refine q_ic (v := Int32.ofInt (-1)) eX4_numberAt_184 rfl ?_
      exact q_iret eX4_numberAt_185 rfl ⟨_, _, rfl, hA, (r32l rfl), rfl, h⟩
    · have h := h.2 c56
      refine q_iload eX4_numberAt_59 rfl ?_
      refine q_iz_le (tgt := 184) (a := a4) eX4_numberAt_61 (by decide) (ofz hra4) (fun c61 => ?_) (fun c61 => ?_)
      · have h := h.1 c61
        refine q_ic (v := Int32.ofInt (-1)) eX4_numberAt_184 rfl ?_
        exact q_iret eX4_numberAt_185 rfl ⟨_, _, rfl, hA, (r32l rfl), rfl, h⟩
      · have h := h.2 c61
        refine q_iload eX4_numberAt_64 rfl ?_
        refine q_aload_n eX4_numberAt_66 rfl ?_
        refine q_getR (c := 4) (n := 0) (k := 8) (a := 44) eX4_numberAt_67 rfl (by decide) (by decide) fX4_27 rfl rfl ?_
        refine q_alenz (v := Int32.ofInt 5604) eX4_numberAt_70 rfl rfl rfl ?_
        refine q_cz_gt (tgt := 184) (a := a4) (b := 5604) eX4_numberAt_71 (by decide) (ofz hra4) (ofz (r32l rfl)) (fun c71 => ?_) (fun c71 => ?_)
        · have h := h.1 c71
          refine q_ic (v := Int32.ofInt (-1)) eX4_numberAt_184 rfl ?_
          exact q_iret eX4_numberAt_185 rfl ⟨_, _, rfl, hA, (r32l rfl), rfl, h⟩
        · have h := h.2 c71
          have r1 := h.1
          have h := h.2
          refine z_incN (m := 1) eX4_numberAt_74 rfl (Nat.le_of_ble_eq_true rfl) rfl ?_
          refine q_aload_n eX4_numberAt_77 rfl ?_
          refine q_aload_n eX4_numberAt_78 rfl ?_
          refine q_getR (c := 4) (n := 0) (k := 8) (a := 44) eX4_numberAt_79 rfl (by decide) (by decide) fX4_27 rfl rfl ?_
          refine q_iload eX4_numberAt_82 rfl ?_
          have f2 := h.1
          have h := h.2
          refine z_iald (n := 5604) eX4_numberAt_84 rfl (ofz r1) f2 ?_
          refine q_topI (v := Int32.ofInt (s.1 44 (a4 - 1))) rfl ?_
          refine q_V1 (ci := 4) (n := 0) eX4_numberAt_85 DX4_chief lX4_48 rfl (by decide) rfl rfl rfl rfl (h.1 hA (hA _ _)) ?_
          rintro _ _ ⟨s3, v3, rfl, hA3, r3, rfl, h⟩
          refine q_istore eX4_numberAt_88 (Nat.le_of_ble_eq_true rfl) ?_
          refine q_iload eX4_numberAt_90 rfl ?_
          refine q_ic (v := Int32.ofInt (-1)) eX4_numberAt_92 rfl ?_
          refine q_cz_ne (tgt := 98) (a := v3) (b := (-1)) eX4_numberAt_93 (by decide) (ofz r3) (ofz (r32l rfl)) (fun c93 => ?_) (fun c93 => ?_)
          · have h := h.1 c93
            refine q_aload_n eX4_numberAt_98 rfl ?_
            refine q_getR (c := 4) (n := 0) (k := 4) (a := 40) eX4_numberAt_99 rfl (by decide) (by decide) fX4_15 rfl rfl ?_
            refine q_iload eX4_numberAt_102 rfl ?_
            have f4 := h.1
            have h := h.2
            refine z_iald (n := 5602) eX4_numberAt_104 rfl (ofz r3) f4 ?_
            refine q_topI (v := Int32.ofInt (s3.1 40 v3)) rfl ?_
            refine q_ic (v := Int32.ofInt 5) eX4_numberAt_105 rfl ?_
            refine q_cz_ne (tgt := 133) (a := s3.1 40 v3) (b := 5) eX4_numberAt_106 (by decide) (ofz (hA3 _ _)) (ofz (r32l rfl)) (fun c106 => ?_) (fun c106 => ?_)
            · have h := h.1 c106
              exact q_subL rfl (h.1 hA3 hra2 hra3 r1 hra5 r3)
            · have h := h.2 c106
              refine q_aload_n eX4_numberAt_109 rfl ?_
              refine q_getR (c := 4) (n := 0) (k := 7) (a := 43) eX4_numberAt_110 rfl (by decide) (by decide) fX4_24 rfl rfl ?_
              refine q_iload eX4_numberAt_113 rfl ?_
              refine z_iald (n := 5602) eX4_numberAt_115 rfl (ofz r3) f4 ?_
              refine q_topI (v := Int32.ofInt (s3.1 43 v3)) rfl ?_
              refine q_iz_ne (tgt := 133) (a := s3.1 43 v3) eX4_numberAt_116 (by decide) (ofz (hA3 _ _)) (fun c116 => ?_) (fun c116 => ?_)
              · have h := h.1 c116
                exact q_subL rfl (h.1 hA3 hra2 hra3 r1 hra5 r3)
              · have h := h.2 c116
                refine q_aload_n eX4_numberAt_119 rfl ?_
                refine q_getR (c := 4) (n := 0) (k := 7) (a := 43) eX4_numberAt_120 rfl (by decide) (by decide) fX4_24 rfl rfl ?_
                refine q_iload eX4_numberAt_123 rfl ?_
                refine q_bi (v := Int32.ofInt 10) eX4_numberAt_125 rfl ?_
                refine q_iload_n eX4_numberAt_127 rfl ?_
                refine z_iadd eX4_numberAt_128 ?_
                have r5 := h.1
                have h := h.2
                refine z_iast (n := 5602) eX4_numberAt_129 rfl (ofz r3) f4  ?_
                have r6 := h.1
                have h := h.2
                refine z_inc (m := 1) eX4_numberAt_130 rfl (Nat.le_of_ble_eq_true rfl) rfl ?_
                exact q_subL rfl (h.1 (ra_ui hA3 r5) hra2 r6 r1 hra5 r3)
          · have h := h.2 c93
            refine q_ic (v := Int32.ofInt (-1)) eX4_numberAt_96 rfl ?_
            exact q_iret eX4_numberAt_97 rfl ⟨_, _, rfl, hA3, (r32l rfl), rfl, h⟩
set_option maxRecDepth 20000 in
theorem s_X4_numberAt_30 {s : ST} {a1 : Int} {a2 : Int} {Q : ST → Int → Prop} (h : RA s → R32 a1 → R32 a2 → (((0 : Int) ≤ (0 : Int) ∧ (0 : Int) < 5604) ∧ K_X4_numberAt_45 (ui s 44 0 a1) a2 0 1 0 Q)) : K_X4_numberAt_30 s a1 a2 Q := by
  refine ⟨?_, trivial⟩
  intro hA hra1 hra2
  have h := h hA hra1 hra2
  refine q_ic (v := Int32.ofInt 0) eX4_numberAt_30 rfl ?_
  refine q_istore_n eX4_numberAt_31 (Nat.le_of_ble_eq_true rfl) ?_
  refine q_ic (v := Int32.ofInt 1) eX4_numberAt_32 rfl ?_
  refine q_istore eX4_numberAt_33 (Nat.le_of_ble_eq_true rfl) ?_
  refine q_aload_n eX4_numberAt_35 rfl ?_
  refine q_getR (c := 4) (n := 0) (k := 8) (a := 44) eX4_numberAt_36 rfl (by decide) (by decide) fX4_27 rfl rfl ?_
  refine q_ic (v := Int32.ofInt 0) eX4_numberAt_39 rfl ?_
  refine q_iload_n eX4_numberAt_40 rfl ?_
  have f1 := h.1
  have h := h.2
  refine z_iast (n := 5604) eX4_numberAt_41 rfl (ofz (r32l rfl)) f1  ?_
  refine q_ic (v := Int32.ofInt 0) eX4_numberAt_42 rfl ?_
  refine q_istore eX4_numberAt_43 (Nat.le_of_ble_eq_true rfl) ?_
  exact q_subL rfl (h.1 (ra_ui hA hra1) hra2 (r32l rfl) (r32l rfl) (r32l rfl))
set_option maxRecDepth 20000 in
theorem s_X4_numberAt_2 {s : ST} {a1 : Int} {a2 : Int} {a3 : Int} {Q : ST → Int → Prop} (h : RA s → R32 a1 → R32 a2 → R32 a3 → ((s.1 38 2 ≤ a3 → K_X4_numberAt_30 s a1 a2 Q) ∧ (¬ s.1 38 2 ≤ a3 → ((5602 ≤ a3 → K_X4_numberAt_30 s a1 a2 Q) ∧ (¬ 5602 ≤ a3 → (((0 : Int) ≤ a3 ∧ a3 < 5602) ∧ (R32 (a3 + 1) ∧ K_X4_numberAt_2 (ui s 43 a3 0) a1 a2 (a3 + 1) Q))))))) : K_X4_numberAt_2 s a1 a2 a3 Q := by
  refine ⟨?_, trivial⟩
  intro hA hra1 hra2 hra3
  have h := h hA hra1 hra2 hra3
  refine q_iload_n eX4_numberAt_2 rfl ?_
  refine q_aload_n eX4_numberAt_3 rfl ?_
  refine q_getf (c := 4) (n := 0) (k := 2) (v := .int (Int32.ofInt (s.1 38 2))) eX4_numberAt_4 rfl (by decide) (by decide) fX4_33 rfl ?_
  refine q_cz_ge (tgt := 30) (a := a3) (b := s.1 38 2) eX4_numberAt_7 (by decide) (ofz hra3) (ofz (hA _ _)) (fun c7 => ?_) (fun c7 => ?_)
  · have h := h.1 c7
    exact q_subL rfl (h.1 hA hra1 hra2)
  · have h := h.2 c7
    refine q_iload_n eX4_numberAt_10 rfl ?_
    refine q_si (v := Int32.ofInt 5602) eX4_numberAt_11 rfl ?_
    refine q_cz_ge (tgt := 30) (a := a3) (b := 5602) eX4_numberAt_14 (by decide) (ofz hra3) (ofz (r32l rfl)) (fun c14 => ?_) (fun c14 => ?_)
    · have h := h.1 c14
      exact q_subL rfl (h.1 hA hra1 hra2)
    · have h := h.2 c14
      refine q_aload_n eX4_numberAt_17 rfl ?_
      refine q_getR (c := 4) (n := 0) (k := 7) (a := 43) eX4_numberAt_18 rfl (by decide) (by decide) fX4_24 rfl rfl ?_
      refine q_iload_n eX4_numberAt_21 rfl ?_
      refine q_ic (v := Int32.ofInt 0) eX4_numberAt_22 rfl ?_
      have f1 := h.1
      have h := h.2
      refine z_iast (n := 5602) eX4_numberAt_23 rfl (ofz hra3) f1  ?_
      have r2 := h.1
      have h := h.2
      refine z_inc (m := 1) eX4_numberAt_24 rfl (Nat.le_of_ble_eq_true rfl) rfl ?_
      refine q_goto (tgt := 2) eX4_numberAt_27 (by decide) ?_
      exact q_subL rfl (h.1 (ra_ui hA (r32l rfl)) hra1 hra2 r2)
set_option maxRecDepth 20000 in
theorem s_X4_numberAt {s : ST} {p : Int} {q : Int} {Q : ST → Int → Prop} (h : RA s → R32 p → R32 q → K_X4_numberAt_2 s p q 0 Q) : C_X4_numberAt s p q Q := by
  refine ⟨?_, trivial⟩
  intro hA hrp hrq
  have h := h hA hrp hrq
  refine q_enter (by decide) (Nat.le_of_ble_eq_true rfl) ?_
  refine q_ic (v := Int32.ofInt 0) eX4_numberAt_0 rfl ?_
  refine q_istore_n eX4_numberAt_1 (Nat.le_of_ble_eq_true rfl) ?_
  exact q_subL rfl (h.1 hA hrp hrq (r32l rfl))
