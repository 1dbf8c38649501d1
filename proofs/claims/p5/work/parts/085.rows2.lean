/-! THE ROWS THAT THE WALKER (wip/whole/walk.py) LAYS: path conditions as integers, indices by their numbers. -/
theorem q_fitb {M M2 : q_M} (h : (Nat.ble (M2.2.1 + 1) M.2.1 && Nat.ble (8 + (M2.1.2.2.1 + 11) + M2.2.2.1) M.2.2.1) = true) : q_fit M M2 := by
  rw [Bool.and_eq_true] at h
  exact ⟨Nat.le_of_ble_eq_true h.1, Nat.le_of_ble_eq_true h.2⟩
theorem q_subL {M : q_M} {σ : q_S} {kc ks pc : Nat} {lv lv' : List (Nat × Value)} {st : List Value} {Q : q_F} (h : lv'.map (fun q => q_lk lv q.1) = lv'.map (fun q => some q.2)) (k : q_K M σ kc ks pc lv' st Q) : q_K M σ kc ks pc lv st Q := by
  refine q_sub (fun q hq => ?_) k
  obtain ⟨i, hi⟩ := List.getElem?_of_mem hq
  have h1 : (lv'.map (fun q => q_lk lv q.1))[i]? = (lv'.map (fun q => some q.2))[i]? := by rw [h]
  rw [List.getElem?_map, List.getElem?_map, hi] at h1
  exact Option.some.inj h1
/-- the same state, written otherwise -/
theorem q_Keq {M : q_M} {σ σ' : q_S} {kc ks pc : Nat} {lv : List (Nat × Value)} {st : List Value} {Q : q_F} (h : σ = σ') (k : q_K M σ' kc ks pc lv st Q) : q_K M σ kc ks pc lv st Q := h ▸ k
theorem q_of_toInt {x y : Int32} (h : x.toInt = y.toInt) : x = y := Int32.toInt_inj.mp h
theorem q_addz {x y : Int32} {a b : Int} (hx : x.toInt = a) (hy : y.toInt = b) (h : -2147483648 ≤ a + b ∧ a + b ≤ 2147483647) : (x + y).toInt = a + b := by
  rw [Int32.toInt_add, hx, hy]
  exact Int.bmod_eq_of_le (by omega) (by omega)
theorem q_subz {x y : Int32} {a b : Int} (hx : x.toInt = a) (hy : y.toInt = b) (h : -2147483648 ≤ a - b ∧ a - b ≤ 2147483647) : (x - y).toInt = a - b := by
  rw [Int32.toInt_sub, hx, hy]
  exact Int.bmod_eq_of_le (by omega) (by omega)
theorem q_mulz {x y : Int32} {a b : Int} (hx : x.toInt = a) (hy : y.toInt = b) (h : -2147483648 ≤ a * b ∧ a * b ≤ 2147483647) : (x * y).toInt = a * b := by
  rw [Int32.toInt_mul, hx, hy]
  exact Int.bmod_eq_of_le (by omega) (by omega)
theorem q_rng (x : Int32) : -2147483648 ≤ x.toInt ∧ x.toInt ≤ 2147483647 := ⟨Int32.le_toInt x, by have := Int32.toInt_lt x; omega⟩
section QR
variable {M M2 : q_M} {σ : q_S} {kc ks pc : Nat} {lv : List (Nat × Value)} {st rest : List Value} {Q : q_F} {Q0 Q2 : q_P}
theorem q_ic {n : Int} {v : Int32} (hd : decode M.1.2.1 pc = .ok (.iconst n, 1)) (hv : Int32.ofInt n = v) (k : q_K M σ kc ks (pc + 1) lv (.int v :: st) Q) : q_K M σ kc ks pc lv st Q := q_iconst hd (hv ▸ k)
theorem q_bi {n : Int} {v : Int32} (hd : decode M.1.2.1 pc = .ok (.bipush n, 2)) (hv : (Int8.ofInt n).toInt32 = v) (k : q_K M σ kc ks (pc + 2) lv (.int v :: st) Q) : q_K M σ kc ks pc lv st Q := q_bipush hd (hv ▸ k)
theorem q_si {n : Int} {v : Int32} (hd : decode M.1.2.1 pc = .ok (.sipush n, 3)) (hv : (Int16.ofInt n).toInt32 = v) (k : q_K M σ kc ks (pc + 3) lv (.int v :: st) Q) : q_K M σ kc ks pc lv st Q := q_sipush hd (hv ▸ k)
theorem q_lc {n : Fin 2} {v : Int64} (hd : decode M.1.2.1 pc = .ok (.lconst n, 1)) (hv : Int64.ofNat (n : Nat) = v) (k : q_K M σ kc ks (pc + 1) lv (.long v :: st) Q) : q_K M σ kc ks pc lv st Q := q_lconst hd (hv ▸ k)
theorem q_inc {i : Nat} {n : Int} {x v : Int32} (hd : decode M.1.2.1 pc = .ok (.iinc i n, 3)) (hk : q_lk lv i = some (.int x)) (hn : i < M.1.2.2.1) (hv : Int32.ofInt n = v) (k : q_K M σ kc ks (pc + 3) (q_st1 lv i (.int (x + v))) st Q) : q_K M σ kc ks pc lv st Q := q_iinc hd hk hn (hv ▸ k)
theorem q_getI {c n i k idx : Nat} (hd : decode M.1.2.1 pc = .ok (.getfield idx, 3)) (hi : σ.2.2.2[i]? = some (c, n)) (hc : c < 12) (hk : k < q_N c) (hlink : Cond.fieldLink M.1.1.cls idx (q_T c k).1 (q_T c k).2.1 (q_T c k).2.2.1 ∈ q_gt)
    (hv : q_av σ i k (q_ty c k) = .int (σ.1 i k)) (kk : q_K M σ kc ks (pc + 3) lv (.int (σ.1 i k) :: st) Q) : q_K M σ kc ks pc lv (.ref i :: st) Q := q_getf hd hi hc hk hlink hv kk
theorem q_getJ {c n i k idx : Nat} (hd : decode M.1.2.1 pc = .ok (.getfield idx, 3)) (hi : σ.2.2.2[i]? = some (c, n)) (hc : c < 12) (hk : k < q_N c) (hlink : Cond.fieldLink M.1.1.cls idx (q_T c k).1 (q_T c k).2.1 (q_T c k).2.2.1 ∈ q_gt)
    (hv : q_av σ i k (q_ty c k) = .long (σ.2.1 i k)) (kk : q_K M σ kc ks (pc + 3) lv (.long (σ.2.1 i k) :: st) Q) : q_K M σ kc ks pc lv (.ref i :: st) Q := q_getf hd hi hc hk hlink hv kk
theorem q_getR {c n i k idx a : Nat} (hd : decode M.1.2.1 pc = .ok (.getfield idx, 3)) (hi : σ.2.2.2[i]? = some (c, n)) (hc : c < 12) (hk : k < q_N c) (hlink : Cond.fieldLink M.1.1.cls idx (q_T c k).1 (q_T c k).2.1 (q_T c k).2.2.1 ∈ q_gt)
    (hv : q_av σ i k (q_ty c k) = q_rf (σ.2.2.1 i k)) (hr : σ.2.2.1 i k = some a) (kk : q_K M σ kc ks (pc + 3) lv (.ref a :: st) Q) : q_K M σ kc ks pc lv (.ref i :: st) Q := q_getf hd hi hc hk hlink (by rw [hv, hr]; rfl) kk
theorem q_lt0 {x : Int32} {a : Int} (ha : x.toInt = a) : x < 0 ↔ a < 0 := by rw [Int32.lt_iff_toInt_lt, ha]; rfl
theorem q_le0 {x : Int32} {a : Int} (ha : x.toInt = a) : 0 ≤ x ↔ 0 ≤ a := by rw [Int32.le_iff_toInt_le, ha]; rfl
theorem q_gt0 {x : Int32} {a : Int} (ha : x.toInt = a) : 0 < x ↔ 0 < a := by rw [Int32.lt_iff_toInt_lt, ha]; rfl
theorem q_ge0 {x : Int32} {a : Int} (ha : x.toInt = a) : x ≤ 0 ↔ a ≤ 0 := by rw [Int32.le_iff_toInt_le, ha]; rfl
theorem q_eq0 {x : Int32} {a : Int} (ha : x.toInt = a) : x = 0 ↔ a = 0 := by rw [← Int32.toInt_inj, ha]; rfl
theorem q_ltz {x y : Int32} {a b : Int} (ha : x.toInt = a) (hb : y.toInt = b) : x < y ↔ a < b := by rw [Int32.lt_iff_toInt_lt, ha, hb]
theorem q_lez {x y : Int32} {a b : Int} (ha : x.toInt = a) (hb : y.toInt = b) : x ≤ y ↔ a ≤ b := by rw [Int32.le_iff_toInt_le, ha, hb]
theorem q_eqz {x y : Int32} {a b : Int} (ha : x.toInt = a) (hb : y.toInt = b) : x = y ↔ a = b := by rw [← Int32.toInt_inj, ha, hb]
theorem q_iz_eq {x : Int32} {a off : Int} {tgt : Nat} (hd : decode M.1.2.1 pc = .ok (.ifCond .eq off, 3)) (ht : (pc : Int) + off = (tgt : Int)) (ha : x.toInt = a) (kt : a = 0 → q_K M σ kc ks tgt lv st Q) (kf : ¬ a = 0 → q_K M σ kc ks (pc + 3) lv st Q) : q_K M σ kc ks pc lv (.int x :: st) Q := q_if_eq hd ht (fun h => kt ((q_eq0 ha).mp h)) (fun h => kf (fun e => h ((q_eq0 ha).mpr e)))
theorem q_cz_eq {x y : Int32} {a b off : Int} {tgt : Nat} (hd : decode M.1.2.1 pc = .ok (.if_icmp .eq off, 3)) (ht : (pc : Int) + off = (tgt : Int)) (ha : x.toInt = a) (hb : y.toInt = b) (kt : a = b → q_K M σ kc ks tgt lv st Q) (kf : ¬ a = b → q_K M σ kc ks (pc + 3) lv st Q) : q_K M σ kc ks pc lv (.int y :: .int x :: st) Q := q_icmp_eq hd ht (fun h => kt ((q_eqz ha hb).mp h)) (fun h => kf (fun e => h ((q_eqz ha hb).mpr e)))
theorem q_iz_ne {x : Int32} {a off : Int} {tgt : Nat} (hd : decode M.1.2.1 pc = .ok (.ifCond .ne off, 3)) (ht : (pc : Int) + off = (tgt : Int)) (ha : x.toInt = a) (kt : a ≠ 0 → q_K M σ kc ks tgt lv st Q) (kf : a = 0 → q_K M σ kc ks (pc + 3) lv st Q) : q_K M σ kc ks pc lv (.int x :: st) Q := q_if_ne hd ht (fun h => kt (fun e => h ((q_eq0 ha).mpr e))) (fun h => kf ((q_eq0 ha).mp h))
theorem q_cz_ne {x y : Int32} {a b off : Int} {tgt : Nat} (hd : decode M.1.2.1 pc = .ok (.if_icmp .ne off, 3)) (ht : (pc : Int) + off = (tgt : Int)) (ha : x.toInt = a) (hb : y.toInt = b) (kt : a ≠ b → q_K M σ kc ks tgt lv st Q) (kf : a = b → q_K M σ kc ks (pc + 3) lv st Q) : q_K M σ kc ks pc lv (.int y :: .int x :: st) Q := q_icmp_ne hd ht (fun h => kt (fun e => h ((q_eqz ha hb).mpr e))) (fun h => kf ((q_eqz ha hb).mp h))
theorem q_iz_lt {x : Int32} {a off : Int} {tgt : Nat} (hd : decode M.1.2.1 pc = .ok (.ifCond .lt off, 3)) (ht : (pc : Int) + off = (tgt : Int)) (ha : x.toInt = a) (kt : a < 0 → q_K M σ kc ks tgt lv st Q) (kf : ¬ a < 0 → q_K M σ kc ks (pc + 3) lv st Q) : q_K M σ kc ks pc lv (.int x :: st) Q := q_if_lt hd ht (fun h => kt ((q_lt0 ha).mp h)) (fun h => kf (fun e => h ((q_lt0 ha).mpr e)))
theorem q_cz_lt {x y : Int32} {a b off : Int} {tgt : Nat} (hd : decode M.1.2.1 pc = .ok (.if_icmp .lt off, 3)) (ht : (pc : Int) + off = (tgt : Int)) (ha : x.toInt = a) (hb : y.toInt = b) (kt : a < b → q_K M σ kc ks tgt lv st Q) (kf : ¬ a < b → q_K M σ kc ks (pc + 3) lv st Q) : q_K M σ kc ks pc lv (.int y :: .int x :: st) Q := q_icmp_lt hd ht (fun h => kt ((q_ltz ha hb).mp h)) (fun h => kf (fun e => h ((q_ltz ha hb).mpr e)))
theorem q_iz_ge {x : Int32} {a off : Int} {tgt : Nat} (hd : decode M.1.2.1 pc = .ok (.ifCond .ge off, 3)) (ht : (pc : Int) + off = (tgt : Int)) (ha : x.toInt = a) (kt : 0 ≤ a → q_K M σ kc ks tgt lv st Q) (kf : ¬ 0 ≤ a → q_K M σ kc ks (pc + 3) lv st Q) : q_K M σ kc ks pc lv (.int x :: st) Q := q_if_ge hd ht (fun h => kt ((q_le0 ha).mp h)) (fun h => kf (fun e => h ((q_le0 ha).mpr e)))
theorem q_cz_ge {x y : Int32} {a b off : Int} {tgt : Nat} (hd : decode M.1.2.1 pc = .ok (.if_icmp .ge off, 3)) (ht : (pc : Int) + off = (tgt : Int)) (ha : x.toInt = a) (hb : y.toInt = b) (kt : b ≤ a → q_K M σ kc ks tgt lv st Q) (kf : ¬ b ≤ a → q_K M σ kc ks (pc + 3) lv st Q) : q_K M σ kc ks pc lv (.int y :: .int x :: st) Q := q_icmp_ge hd ht (fun h => kt ((q_lez hb ha).mp h)) (fun h => kf (fun e => h ((q_lez hb ha).mpr e)))
theorem q_iz_gt {x : Int32} {a off : Int} {tgt : Nat} (hd : decode M.1.2.1 pc = .ok (.ifCond .gt off, 3)) (ht : (pc : Int) + off = (tgt : Int)) (ha : x.toInt = a) (kt : 0 < a → q_K M σ kc ks tgt lv st Q) (kf : ¬ 0 < a → q_K M σ kc ks (pc + 3) lv st Q) : q_K M σ kc ks pc lv (.int x :: st) Q := q_if_gt hd ht (fun h => kt ((q_gt0 ha).mp h)) (fun h => kf (fun e => h ((q_gt0 ha).mpr e)))
theorem q_cz_gt {x y : Int32} {a b off : Int} {tgt : Nat} (hd : decode M.1.2.1 pc = .ok (.if_icmp .gt off, 3)) (ht : (pc : Int) + off = (tgt : Int)) (ha : x.toInt = a) (hb : y.toInt = b) (kt : b < a → q_K M σ kc ks tgt lv st Q) (kf : ¬ b < a → q_K M σ kc ks (pc + 3) lv st Q) : q_K M σ kc ks pc lv (.int y :: .int x :: st) Q := q_icmp_gt hd ht (fun h => kt ((q_ltz hb ha).mp h)) (fun h => kf (fun e => h ((q_ltz hb ha).mpr e)))
theorem q_iz_le {x : Int32} {a off : Int} {tgt : Nat} (hd : decode M.1.2.1 pc = .ok (.ifCond .le off, 3)) (ht : (pc : Int) + off = (tgt : Int)) (ha : x.toInt = a) (kt : a ≤ 0 → q_K M σ kc ks tgt lv st Q) (kf : ¬ a ≤ 0 → q_K M σ kc ks (pc + 3) lv st Q) : q_K M σ kc ks pc lv (.int x :: st) Q := q_if_le hd ht (fun h => kt ((q_ge0 ha).mp h)) (fun h => kf (fun e => h ((q_ge0 ha).mpr e)))
theorem q_cz_le {x y : Int32} {a b off : Int} {tgt : Nat} (hd : decode M.1.2.1 pc = .ok (.if_icmp .le off, 3)) (ht : (pc : Int) + off = (tgt : Int)) (ha : x.toInt = a) (hb : y.toInt = b) (kt : a ≤ b → q_K M σ kc ks tgt lv st Q) (kf : ¬ a ≤ b → q_K M σ kc ks (pc + 3) lv st Q) : q_K M σ kc ks pc lv (.int y :: .int x :: st) Q := q_icmp_le hd ht (fun h => kt ((q_lez ha hb).mp h)) (fun h => kf (fun e => h ((q_lez ha hb).mpr e)))
theorem q_ialdz {i n : Nat} {x : Int32} {z : Int} (hd : decode M.1.2.1 pc = .ok (.iaload, 1)) (hi : σ.2.2.2[i]? = some (20, n)) (hx : x.toInt = z) (h0 : 0 ≤ z) (h1 : z < n) (kk : q_K M σ kc ks (pc + 1) lv (.int (σ.1 i z.toNat) :: st) Q) : q_K M σ kc ks pc lv (.int x :: .ref i :: st) Q := q_iald (j := z.toNat) hd hi (by omega) (by omega) kk
theorem q_laldz {i n : Nat} {x : Int32} {z : Int} (hd : decode M.1.2.1 pc = .ok (.laload, 1)) (hi : σ.2.2.2[i]? = some (21, n)) (hx : x.toInt = z) (h0 : 0 ≤ z) (h1 : z < n) (kk : q_K M σ kc ks (pc + 1) lv (.long (σ.2.1 i z.toNat) :: st) Q) : q_K M σ kc ks pc lv (.int x :: .ref i :: st) Q := q_lald (j := z.toNat) hd hi (by omega) (by omega) kk
theorem q_baldz {i n : Nat} {x : Int32} {z : Int} (hd : decode M.1.2.1 pc = .ok (.baload, 1)) (hi : σ.2.2.2[i]? = some (22, n)) (hx : x.toInt = z) (h0 : 0 ≤ z) (h1 : z < n) (kk : q_K M σ kc ks (pc + 1) lv (.int (σ.1 i z.toNat) :: st) Q) : q_K M σ kc ks pc lv (.int x :: .ref i :: st) Q := q_bald (j := z.toNat) hd hi (by omega) (by omega) kk
theorem q_zaldz {i n : Nat} {x : Int32} {z : Int} (hd : decode M.1.2.1 pc = .ok (.baload, 1)) (hi : σ.2.2.2[i]? = some (23, n)) (hx : x.toInt = z) (h0 : 0 ≤ z) (h1 : z < n) (kk : q_K M σ kc ks (pc + 1) lv (.int (σ.1 i z.toNat) :: st) Q) : q_K M σ kc ks pc lv (.int x :: .ref i :: st) Q := q_zald (j := z.toNat) hd hi (by omega) (by omega) kk
theorem q_iastz {i n : Nat} {x : Int32} {v : Int32} {z : Int} (hd : decode M.1.2.1 pc = .ok (.iastore, 1)) (hi : σ.2.2.2[i]? = some (20, n)) (hx : x.toInt = z) (h0 : 0 ≤ z) (h1 : z < n) (kk : q_K M (q_ui σ i z.toNat v) kc ks (pc + 1) lv st Q) : q_K M σ kc ks pc lv (.int v :: .int x :: .ref i :: st) Q := q_iast (j := z.toNat) hd hi (by omega) (by omega) kk
theorem q_lastz {i n : Nat} {x : Int32} {v : Int64} {z : Int} (hd : decode M.1.2.1 pc = .ok (.lastore, 1)) (hi : σ.2.2.2[i]? = some (21, n)) (hx : x.toInt = z) (h0 : 0 ≤ z) (h1 : z < n) (kk : q_K M (q_uj σ i z.toNat v) kc ks (pc + 1) lv st Q) : q_K M σ kc ks pc lv (.long v :: .int x :: .ref i :: st) Q := q_last (j := z.toNat) hd hi (by omega) (by omega) kk
theorem q_bastz {i n : Nat} {x : Int32} {v : Int32} {z : Int} (hd : decode M.1.2.1 pc = .ok (.bastore, 1)) (hi : σ.2.2.2[i]? = some (22, n)) (hx : x.toInt = z) (h0 : 0 ≤ z) (h1 : z < n) (kk : q_K M (q_ui σ i z.toNat v.toInt8.toInt32) kc ks (pc + 1) lv st Q) : q_K M σ kc ks pc lv (.int v :: .int x :: .ref i :: st) Q := q_bast (j := z.toNat) hd hi (by omega) (by omega) kk
theorem q_zastz {i n : Nat} {x : Int32} {v : Int32} {z : Int} (hd : decode M.1.2.1 pc = .ok (.bastore, 1)) (hi : σ.2.2.2[i]? = some (23, n)) (hx : x.toInt = z) (h0 : 0 ≤ z) (h1 : z < n) (hv : v = 0 ∨ v = 1) (kk : q_K M (q_ui σ i z.toNat v) kc ks (pc + 1) lv st Q) : q_K M σ kc ks pc lv (.int v :: .int x :: .ref i :: st) Q := q_zast (j := z.toNat) hd hi (by omega) (by omega) hv kk
theorem q_tald0z {x : Int32} {z : Int} (hd : decode M.1.2.1 pc = .ok (.iaload, 1)) (hx : x.toInt = z) (h0 : 0 ≤ z) (h1 : z < 17) (kk : q_K M σ kc ks (pc + 1) lv (.int (q_arity.getD z.toNat 0) :: st) Q) : q_K M σ kc ks pc lv (.int x :: .ref 1000 :: st) Q := q_tald0 (j := z.toNat) hd (by omega) (by omega) kk
theorem q_tald1z {x : Int32} {z : Int} (hd : decode M.1.2.1 pc = .ok (.iaload, 1)) (hx : x.toInt = z) (h0 : 0 ≤ z) (h1 : z < 6) (kk : q_K M σ kc ks (pc + 1) lv (.int (q_karity.getD z.toNat 0) :: st) Q) : q_K M σ kc ks pc lv (.int x :: .ref 1001 :: st) Q := q_tald1 (j := z.toNat) hd (by omega) (by omega) kk
theorem q_alenz {i t n : Nat} {v : Int32} (hd : decode M.1.2.1 pc = .ok (.arraylength, 1)) (hi : σ.2.2.2[i]? = some (t, n)) (ht : (Nat.ble 20 t && Nat.ble t 23) = true) (hv : Int32.ofNat n = v) (kk : q_K M σ kc ks (pc + 1) lv (.int v :: st) Q) : q_K M σ kc ks pc lv (.ref i :: st) Q := q_alen hd hi (by rw [Bool.and_eq_true] at ht; have h1 := Nat.le_of_ble_eq_true ht.1; have h2 := Nat.le_of_ble_eq_true ht.2; omega) (hv ▸ kk)
theorem q_iret {x : Int32} (hd : decode M.1.2.1 pc = .ok (.ireturn, 1)) (hr : M.1.2.2.2 = some .int) (hq : Q0 σ (some (.int x))) : q_K M σ 0 0 pc lv [.int x] (q_fin M Q0) := q_ireturn hd hr ⟨Nat.zero_le _, Nat.zero_le _⟩ hq
theorem q_zret {x : Int32} (hd : decode M.1.2.1 pc = .ok (.ireturn, 1)) (hr : M.1.2.2.2 = some .boolean) (hx : x = 0 ∨ x = 1) (hq : Q0 σ (some (.int x))) : q_K M σ 0 0 pc lv [.int x] (q_fin M Q0) := q_zreturn hd hr hx ⟨Nat.zero_le _, Nat.zero_le _⟩ hq
theorem q_lret {x : Int64} (hd : decode M.1.2.1 pc = .ok (.lreturn, 1)) (hr : M.1.2.2.2 = some .long) (hq : Q0 σ (some (.long x))) : q_K M σ 0 0 pc lv [.long x] (q_fin M Q0) := q_lreturn hd hr ⟨Nat.zero_le _, Nat.zero_le _⟩ hq
theorem q_ret (hd : decode M.1.2.1 pc = .ok (.return_, 1)) (hr : M.1.2.2.2 = none) (hq : Q0 σ none) : q_K M σ 0 0 pc lv [] (q_fin M Q0) := q_return hd hr ⟨Nat.zero_le _, Nat.zero_le _⟩ hq
theorem q_r8 {rest : List Value} (h : Nat.ble (rest.map fun v => v.category).sum 8 = true) : (rest.map fun v => v.category).sum ≤ 8 := Nat.le_of_ble_eq_true h
end QR
theorem q_V0 {M M2 : q_M} {σ : q_S} {pc : Nat} {lv : List (Nat × Value)} {rest : List Value} {Q : q_F} {Q2 : q_P} {i ci n idx : Nat} (hd : decode M.1.2.1 pc = .ok (.invokevirtual idx, 3)) (hM : q_DV M2 0) (hl : Cond.methodLink M.1.1.cls idx M2.1.1 ∈ q_gt) (hi : σ.2.2.2[i]? = some (ci, n)) (hc : ci < 12) (hR : q_R ci = M2.1.1.cls) (hz : M2.2.2.2 = (0, 0)) (hfit : (Nat.ble (M2.2.1 + 1) M.2.1 && Nat.ble (8 + (M2.1.2.2.1 + 11) + M2.2.2.1) M.2.2.1) = true) (hrest : Nat.ble (rest.map fun v => v.category).sum 8 = true) (hm : q_met M2 σ (.ref i :: []) Q2) (kk : ∀ s' r, Q2 s' r → q_K M s' 0 0 (pc + 3) lv (r.toList ++ rest) Q) : q_K M σ 0 0 pc lv (.ref i :: rest) Q := q_callV0 hd hM hl hi hc hR (q_fitb hfit) (q_r8 hrest) (by rw [hz]; exact ⟨Nat.zero_le _, Nat.zero_le _⟩) hm (by rw [hz]; exact kk)
theorem q_S0 {M M2 : q_M} {σ : q_S} {pc : Nat} {lv : List (Nat × Value)} {rest : List Value} {Q : q_F} {Q2 : q_P} {idx : Nat} (hd : decode M.1.2.1 pc = .ok (.invokestatic idx, 3)) (hM : q_DS M2 0) (hl : Cond.methodLink M.1.1.cls idx M2.1.1 ∈ q_gt) (hz : M2.2.2.2 = (0, 0)) (hfit : (Nat.ble (M2.2.1 + 1) M.2.1 && Nat.ble (8 + (M2.1.2.2.1 + 11) + M2.2.2.1) M.2.2.1) = true) (hrest : Nat.ble (rest.map fun v => v.category).sum 8 = true) (hm : q_met M2 σ [] Q2) (kk : ∀ s' r, Q2 s' r → q_K M s' 0 0 (pc + 3) lv (r.toList ++ rest) Q) : q_K M σ 0 0 pc lv (rest) Q := q_callS0 hd hM hl (q_fitb hfit) (q_r8 hrest) (by rw [hz]; exact ⟨Nat.zero_le _, Nat.zero_le _⟩) hm (by rw [hz]; exact kk)
theorem q_V1 {M M2 : q_M} {σ : q_S} {pc : Nat} {lv : List (Nat × Value)} {rest : List Value} {Q : q_F} {Q2 : q_P} {u1 : Value} {i ci n idx : Nat} (hd : decode M.1.2.1 pc = .ok (.invokevirtual idx, 3)) (hM : q_DV M2 1) (hl : Cond.methodLink M.1.1.cls idx M2.1.1 ∈ q_gt) (hi : σ.2.2.2[i]? = some (ci, n)) (hc : ci < 12) (hR : q_R ci = M2.1.1.cls) (hz : M2.2.2.2 = (0, 0)) (hfit : (Nat.ble (M2.2.1 + 1) M.2.1 && Nat.ble (8 + (M2.1.2.2.1 + 11) + M2.2.2.1) M.2.2.1) = true) (hrest : Nat.ble (rest.map fun v => v.category).sum 8 = true) (hm : q_met M2 σ (.ref i :: [u1]) Q2) (kk : ∀ s' r, Q2 s' r → q_K M s' 0 0 (pc + 3) lv (r.toList ++ rest) Q) : q_K M σ 0 0 pc lv (u1 :: .ref i :: rest) Q := q_callV1 hd hM hl hi hc hR (q_fitb hfit) (q_r8 hrest) (by rw [hz]; exact ⟨Nat.zero_le _, Nat.zero_le _⟩) hm (by rw [hz]; exact kk)
theorem q_S1 {M M2 : q_M} {σ : q_S} {pc : Nat} {lv : List (Nat × Value)} {rest : List Value} {Q : q_F} {Q2 : q_P} {u1 : Value} {idx : Nat} (hd : decode M.1.2.1 pc = .ok (.invokestatic idx, 3)) (hM : q_DS M2 1) (hl : Cond.methodLink M.1.1.cls idx M2.1.1 ∈ q_gt) (hz : M2.2.2.2 = (0, 0)) (hfit : (Nat.ble (M2.2.1 + 1) M.2.1 && Nat.ble (8 + (M2.1.2.2.1 + 11) + M2.2.2.1) M.2.2.1) = true) (hrest : Nat.ble (rest.map fun v => v.category).sum 8 = true) (hm : q_met M2 σ [u1] Q2) (kk : ∀ s' r, Q2 s' r → q_K M s' 0 0 (pc + 3) lv (r.toList ++ rest) Q) : q_K M σ 0 0 pc lv (u1 :: rest) Q := q_callS1 hd hM hl (q_fitb hfit) (q_r8 hrest) (by rw [hz]; exact ⟨Nat.zero_le _, Nat.zero_le _⟩) hm (by rw [hz]; exact kk)
theorem q_SN1 {M M2 : q_M} {σ : q_S} {pc : Nat} {lv : List (Nat × Value)} {rest : List Value} {Q : q_F} {Q2 : q_P} {u1 : Value} {idx : Nat} {host : String} (hd : decode M.1.2.1 pc = .ok (.invokestatic idx, 3)) (hM : q_DS M2 1) (hl : (M.1.1.cls, idx, M2.1.1, host) ∈ q_nests) (hz : M2.2.2.2 = (0, 0)) (hfit : (Nat.ble (M2.2.1 + 1) M.2.1 && Nat.ble (8 + (M2.1.2.2.1 + 11) + M2.2.2.1) M.2.2.1) = true) (hrest : Nat.ble (rest.map fun v => v.category).sum 8 = true) (hm : q_met M2 σ [u1] Q2) (kk : ∀ s' r, Q2 s' r → q_K M s' 0 0 (pc + 3) lv (r.toList ++ rest) Q) : q_K M σ 0 0 pc lv (u1 :: rest) Q := q_callSN1 hd hM hl (q_fitb hfit) (q_r8 hrest) (by rw [hz]; exact ⟨Nat.zero_le _, Nat.zero_le _⟩) hm (by rw [hz]; exact kk)
theorem q_V2 {M M2 : q_M} {σ : q_S} {pc : Nat} {lv : List (Nat × Value)} {rest : List Value} {Q : q_F} {Q2 : q_P} {u1 u2 : Value} {i ci n idx : Nat} (hd : decode M.1.2.1 pc = .ok (.invokevirtual idx, 3)) (hM : q_DV M2 2) (hl : Cond.methodLink M.1.1.cls idx M2.1.1 ∈ q_gt) (hi : σ.2.2.2[i]? = some (ci, n)) (hc : ci < 12) (hR : q_R ci = M2.1.1.cls) (hz : M2.2.2.2 = (0, 0)) (hfit : (Nat.ble (M2.2.1 + 1) M.2.1 && Nat.ble (8 + (M2.1.2.2.1 + 11) + M2.2.2.1) M.2.2.1) = true) (hrest : Nat.ble (rest.map fun v => v.category).sum 8 = true) (hm : q_met M2 σ (.ref i :: [u1, u2]) Q2) (kk : ∀ s' r, Q2 s' r → q_K M s' 0 0 (pc + 3) lv (r.toList ++ rest) Q) : q_K M σ 0 0 pc lv (u2 :: u1 :: .ref i :: rest) Q := q_callV2 hd hM hl hi hc hR (q_fitb hfit) (q_r8 hrest) (by rw [hz]; exact ⟨Nat.zero_le _, Nat.zero_le _⟩) hm (by rw [hz]; exact kk)
theorem q_S2 {M M2 : q_M} {σ : q_S} {pc : Nat} {lv : List (Nat × Value)} {rest : List Value} {Q : q_F} {Q2 : q_P} {u1 u2 : Value} {idx : Nat} (hd : decode M.1.2.1 pc = .ok (.invokestatic idx, 3)) (hM : q_DS M2 2) (hl : Cond.methodLink M.1.1.cls idx M2.1.1 ∈ q_gt) (hz : M2.2.2.2 = (0, 0)) (hfit : (Nat.ble (M2.2.1 + 1) M.2.1 && Nat.ble (8 + (M2.1.2.2.1 + 11) + M2.2.2.1) M.2.2.1) = true) (hrest : Nat.ble (rest.map fun v => v.category).sum 8 = true) (hm : q_met M2 σ [u1, u2] Q2) (kk : ∀ s' r, Q2 s' r → q_K M s' 0 0 (pc + 3) lv (r.toList ++ rest) Q) : q_K M σ 0 0 pc lv (u2 :: u1 :: rest) Q := q_callS2 hd hM hl (q_fitb hfit) (q_r8 hrest) (by rw [hz]; exact ⟨Nat.zero_le _, Nat.zero_le _⟩) hm (by rw [hz]; exact kk)
theorem q_V3 {M M2 : q_M} {σ : q_S} {pc : Nat} {lv : List (Nat × Value)} {rest : List Value} {Q : q_F} {Q2 : q_P} {u1 u2 u3 : Value} {i ci n idx : Nat} (hd : decode M.1.2.1 pc = .ok (.invokevirtual idx, 3)) (hM : q_DV M2 3) (hl : Cond.methodLink M.1.1.cls idx M2.1.1 ∈ q_gt) (hi : σ.2.2.2[i]? = some (ci, n)) (hc : ci < 12) (hR : q_R ci = M2.1.1.cls) (hz : M2.2.2.2 = (0, 0)) (hfit : (Nat.ble (M2.2.1 + 1) M.2.1 && Nat.ble (8 + (M2.1.2.2.1 + 11) + M2.2.2.1) M.2.2.1) = true) (hrest : Nat.ble (rest.map fun v => v.category).sum 8 = true) (hm : q_met M2 σ (.ref i :: [u1, u2, u3]) Q2) (kk : ∀ s' r, Q2 s' r → q_K M s' 0 0 (pc + 3) lv (r.toList ++ rest) Q) : q_K M σ 0 0 pc lv (u3 :: u2 :: u1 :: .ref i :: rest) Q := q_callV3 hd hM hl hi hc hR (q_fitb hfit) (q_r8 hrest) (by rw [hz]; exact ⟨Nat.zero_le _, Nat.zero_le _⟩) hm (by rw [hz]; exact kk)
theorem q_S3 {M M2 : q_M} {σ : q_S} {pc : Nat} {lv : List (Nat × Value)} {rest : List Value} {Q : q_F} {Q2 : q_P} {u1 u2 u3 : Value} {idx : Nat} (hd : decode M.1.2.1 pc = .ok (.invokestatic idx, 3)) (hM : q_DS M2 3) (hl : Cond.methodLink M.1.1.cls idx M2.1.1 ∈ q_gt) (hz : M2.2.2.2 = (0, 0)) (hfit : (Nat.ble (M2.2.1 + 1) M.2.1 && Nat.ble (8 + (M2.1.2.2.1 + 11) + M2.2.2.1) M.2.2.1) = true) (hrest : Nat.ble (rest.map fun v => v.category).sum 8 = true) (hm : q_met M2 σ [u1, u2, u3] Q2) (kk : ∀ s' r, Q2 s' r → q_K M s' 0 0 (pc + 3) lv (r.toList ++ rest) Q) : q_K M σ 0 0 pc lv (u3 :: u2 :: u1 :: rest) Q := q_callS3 hd hM hl (q_fitb hfit) (q_r8 hrest) (by rw [hz]; exact ⟨Nat.zero_le _, Nat.zero_le _⟩) hm (by rw [hz]; exact kk)
theorem q_V4 {M M2 : q_M} {σ : q_S} {pc : Nat} {lv : List (Nat × Value)} {rest : List Value} {Q : q_F} {Q2 : q_P} {u1 u2 u3 u4 : Value} {i ci n idx : Nat} (hd : decode M.1.2.1 pc = .ok (.invokevirtual idx, 3)) (hM : q_DV M2 4) (hl : Cond.methodLink M.1.1.cls idx M2.1.1 ∈ q_gt) (hi : σ.2.2.2[i]? = some (ci, n)) (hc : ci < 12) (hR : q_R ci = M2.1.1.cls) (hz : M2.2.2.2 = (0, 0)) (hfit : (Nat.ble (M2.2.1 + 1) M.2.1 && Nat.ble (8 + (M2.1.2.2.1 + 11) + M2.2.2.1) M.2.2.1) = true) (hrest : Nat.ble (rest.map fun v => v.category).sum 8 = true) (hm : q_met M2 σ (.ref i :: [u1, u2, u3, u4]) Q2) (kk : ∀ s' r, Q2 s' r → q_K M s' 0 0 (pc + 3) lv (r.toList ++ rest) Q) : q_K M σ 0 0 pc lv (u4 :: u3 :: u2 :: u1 :: .ref i :: rest) Q := q_callV4 hd hM hl hi hc hR (q_fitb hfit) (q_r8 hrest) (by rw [hz]; exact ⟨Nat.zero_le _, Nat.zero_le _⟩) hm (by rw [hz]; exact kk)
theorem q_S4 {M M2 : q_M} {σ : q_S} {pc : Nat} {lv : List (Nat × Value)} {rest : List Value} {Q : q_F} {Q2 : q_P} {u1 u2 u3 u4 : Value} {idx : Nat} (hd : decode M.1.2.1 pc = .ok (.invokestatic idx, 3)) (hM : q_DS M2 4) (hl : Cond.methodLink M.1.1.cls idx M2.1.1 ∈ q_gt) (hz : M2.2.2.2 = (0, 0)) (hfit : (Nat.ble (M2.2.1 + 1) M.2.1 && Nat.ble (8 + (M2.1.2.2.1 + 11) + M2.2.2.1) M.2.2.1) = true) (hrest : Nat.ble (rest.map fun v => v.category).sum 8 = true) (hm : q_met M2 σ [u1, u2, u3, u4] Q2) (kk : ∀ s' r, Q2 s' r → q_K M s' 0 0 (pc + 3) lv (r.toList ++ rest) Q) : q_K M σ 0 0 pc lv (u4 :: u3 :: u2 :: u1 :: rest) Q := q_callS4 hd hM hl (q_fitb hfit) (q_r8 hrest) (by rw [hz]; exact ⟨Nat.zero_le _, Nat.zero_le _⟩) hm (by rw [hz]; exact kk)
theorem q_V5 {M M2 : q_M} {σ : q_S} {pc : Nat} {lv : List (Nat × Value)} {rest : List Value} {Q : q_F} {Q2 : q_P} {u1 u2 u3 u4 u5 : Value} {i ci n idx : Nat} (hd : decode M.1.2.1 pc = .ok (.invokevirtual idx, 3)) (hM : q_DV M2 5) (hl : Cond.methodLink M.1.1.cls idx M2.1.1 ∈ q_gt) (hi : σ.2.2.2[i]? = some (ci, n)) (hc : ci < 12) (hR : q_R ci = M2.1.1.cls) (hz : M2.2.2.2 = (0, 0)) (hfit : (Nat.ble (M2.2.1 + 1) M.2.1 && Nat.ble (8 + (M2.1.2.2.1 + 11) + M2.2.2.1) M.2.2.1) = true) (hrest : Nat.ble (rest.map fun v => v.category).sum 8 = true) (hm : q_met M2 σ (.ref i :: [u1, u2, u3, u4, u5]) Q2) (kk : ∀ s' r, Q2 s' r → q_K M s' 0 0 (pc + 3) lv (r.toList ++ rest) Q) : q_K M σ 0 0 pc lv (u5 :: u4 :: u3 :: u2 :: u1 :: .ref i :: rest) Q := q_callV5 hd hM hl hi hc hR (q_fitb hfit) (q_r8 hrest) (by rw [hz]; exact ⟨Nat.zero_le _, Nat.zero_le _⟩) hm (by rw [hz]; exact kk)
theorem q_S5 {M M2 : q_M} {σ : q_S} {pc : Nat} {lv : List (Nat × Value)} {rest : List Value} {Q : q_F} {Q2 : q_P} {u1 u2 u3 u4 u5 : Value} {idx : Nat} (hd : decode M.1.2.1 pc = .ok (.invokestatic idx, 3)) (hM : q_DS M2 5) (hl : Cond.methodLink M.1.1.cls idx M2.1.1 ∈ q_gt) (hz : M2.2.2.2 = (0, 0)) (hfit : (Nat.ble (M2.2.1 + 1) M.2.1 && Nat.ble (8 + (M2.1.2.2.1 + 11) + M2.2.2.1) M.2.2.1) = true) (hrest : Nat.ble (rest.map fun v => v.category).sum 8 = true) (hm : q_met M2 σ [u1, u2, u3, u4, u5] Q2) (kk : ∀ s' r, Q2 s' r → q_K M s' 0 0 (pc + 3) lv (r.toList ++ rest) Q) : q_K M σ 0 0 pc lv (u5 :: u4 :: u3 :: u2 :: u1 :: rest) Q := q_callS5 hd hM hl (q_fitb hfit) (q_r8 hrest) (by rw [hz]; exact ⟨Nat.zero_le _, Nat.zero_le _⟩) hm (by rw [hz]; exact kk)
theorem q_V6 {M M2 : q_M} {σ : q_S} {pc : Nat} {lv : List (Nat × Value)} {rest : List Value} {Q : q_F} {Q2 : q_P} {u1 u2 u3 u4 u5 u6 : Value} {i ci n idx : Nat} (hd : decode M.1.2.1 pc = .ok (.invokevirtual idx, 3)) (hM : q_DV M2 6) (hl : Cond.methodLink M.1.1.cls idx M2.1.1 ∈ q_gt) (hi : σ.2.2.2[i]? = some (ci, n)) (hc : ci < 12) (hR : q_R ci = M2.1.1.cls) (hz : M2.2.2.2 = (0, 0)) (hfit : (Nat.ble (M2.2.1 + 1) M.2.1 && Nat.ble (8 + (M2.1.2.2.1 + 11) + M2.2.2.1) M.2.2.1) = true) (hrest : Nat.ble (rest.map fun v => v.category).sum 8 = true) (hm : q_met M2 σ (.ref i :: [u1, u2, u3, u4, u5, u6]) Q2) (kk : ∀ s' r, Q2 s' r → q_K M s' 0 0 (pc + 3) lv (r.toList ++ rest) Q) : q_K M σ 0 0 pc lv (u6 :: u5 :: u4 :: u3 :: u2 :: u1 :: .ref i :: rest) Q := q_callV6 hd hM hl hi hc hR (q_fitb hfit) (q_r8 hrest) (by rw [hz]; exact ⟨Nat.zero_le _, Nat.zero_le _⟩) hm (by rw [hz]; exact kk)
theorem q_tab3 {M : q_M} {σ : q_S} {kc ks pc : Nat} {lv : List (Nat × Value)} {st : List Value} {Q : q_F} {dflt lo hi z : Int} {offs : Array Int} {len : Nat} {x : Int32} (t0 t1 t2 td : Nat) (hd : decode M.1.2.1 pc = .ok (.tableswitch dflt lo hi offs, len)) (hn : hi = lo + 3 - 1) (ho : offs.toList.map (fun o => (pc : Int) + o) = [(t0 : Int), (t1 : Int), (t2 : Int)]) (ht : (pc : Int) + dflt = (td : Int)) (hx : x.toInt = z) (k0 : z = lo + 0 → q_K M σ kc ks t0 lv st Q) (k1 : z = lo + 1 → q_K M σ kc ks t1 lv st Q) (k2 : z = lo + 2 → q_K M σ kc ks t2 lv st Q)
    (kd : (z < lo ∨ hi < z) → q_K M σ kc ks td lv st Q) : q_K M σ kc ks pc lv (.int x :: st) Q := by
  subst hx
  refine q_table [t0, t1, t2] td hd (by simpa using hn) (fun j t hj => ?_) ht (fun j t hj hx => ?_) kd
  · have h1 : (offs.toList.map (fun o => (pc : Int) + o))[j]? = some (t : Int) := by
      rw [ho]
      have h2 : (([t0, t1, t2] : List Nat).map (fun (q : Nat) => (q : Int)))[j]? = some (t : Int) := by rw [List.getElem?_map, hj]; rfl
      exact h2
    rw [List.getElem?_map] at h1
    cases h3 : offs.toList[j]? with
    | none => rw [h3] at h1; cases h1
    | some o =>
      rw [h3] at h1
      exact ⟨o, by rw [← Array.getElem?_toList]; exact h3, Option.some.inj h1⟩
  · match j, hj, hx with
    | 0, hj, hx => simp at hj; subst hj; exact k0 hx
    | 1, hj, hx => simp at hj; subst hj; exact k1 hx
    | 2, hj, hx => simp at hj; subst hj; exact k2 hx
    | k + 3, hj, hx => simp at hj
theorem q_tab4 {M : q_M} {σ : q_S} {kc ks pc : Nat} {lv : List (Nat × Value)} {st : List Value} {Q : q_F} {dflt lo hi z : Int} {offs : Array Int} {len : Nat} {x : Int32} (t0 t1 t2 t3 td : Nat) (hd : decode M.1.2.1 pc = .ok (.tableswitch dflt lo hi offs, len)) (hn : hi = lo + 4 - 1) (ho : offs.toList.map (fun o => (pc : Int) + o) = [(t0 : Int), (t1 : Int), (t2 : Int), (t3 : Int)]) (ht : (pc : Int) + dflt = (td : Int)) (hx : x.toInt = z) (k0 : z = lo + 0 → q_K M σ kc ks t0 lv st Q) (k1 : z = lo + 1 → q_K M σ kc ks t1 lv st Q) (k2 : z = lo + 2 → q_K M σ kc ks t2 lv st Q) (k3 : z = lo + 3 → q_K M σ kc ks t3 lv st Q)
    (kd : (z < lo ∨ hi < z) → q_K M σ kc ks td lv st Q) : q_K M σ kc ks pc lv (.int x :: st) Q := by
  subst hx
  refine q_table [t0, t1, t2, t3] td hd (by simpa using hn) (fun j t hj => ?_) ht (fun j t hj hx => ?_) kd
  · have h1 : (offs.toList.map (fun o => (pc : Int) + o))[j]? = some (t : Int) := by
      rw [ho]
      have h2 : (([t0, t1, t2, t3] : List Nat).map (fun (q : Nat) => (q : Int)))[j]? = some (t : Int) := by rw [List.getElem?_map, hj]; rfl
      exact h2
    rw [List.getElem?_map] at h1
    cases h3 : offs.toList[j]? with
    | none => rw [h3] at h1; cases h1
    | some o =>
      rw [h3] at h1
      exact ⟨o, by rw [← Array.getElem?_toList]; exact h3, Option.some.inj h1⟩
  · match j, hj, hx with
    | 0, hj, hx => simp at hj; subst hj; exact k0 hx
    | 1, hj, hx => simp at hj; subst hj; exact k1 hx
    | 2, hj, hx => simp at hj; subst hj; exact k2 hx
    | 3, hj, hx => simp at hj; subst hj; exact k3 hx
    | k + 4, hj, hx => simp at hj
theorem q_tab5 {M : q_M} {σ : q_S} {kc ks pc : Nat} {lv : List (Nat × Value)} {st : List Value} {Q : q_F} {dflt lo hi z : Int} {offs : Array Int} {len : Nat} {x : Int32} (t0 t1 t2 t3 t4 td : Nat) (hd : decode M.1.2.1 pc = .ok (.tableswitch dflt lo hi offs, len)) (hn : hi = lo + 5 - 1) (ho : offs.toList.map (fun o => (pc : Int) + o) = [(t0 : Int), (t1 : Int), (t2 : Int), (t3 : Int), (t4 : Int)]) (ht : (pc : Int) + dflt = (td : Int)) (hx : x.toInt = z) (k0 : z = lo + 0 → q_K M σ kc ks t0 lv st Q) (k1 : z = lo + 1 → q_K M σ kc ks t1 lv st Q) (k2 : z = lo + 2 → q_K M σ kc ks t2 lv st Q) (k3 : z = lo + 3 → q_K M σ kc ks t3 lv st Q) (k4 : z = lo + 4 → q_K M σ kc ks t4 lv st Q)
    (kd : (z < lo ∨ hi < z) → q_K M σ kc ks td lv st Q) : q_K M σ kc ks pc lv (.int x :: st) Q := by
  subst hx
  refine q_table [t0, t1, t2, t3, t4] td hd (by simpa using hn) (fun j t hj => ?_) ht (fun j t hj hx => ?_) kd
  · have h1 : (offs.toList.map (fun o => (pc : Int) + o))[j]? = some (t : Int) := by
      rw [ho]
      have h2 : (([t0, t1, t2, t3, t4] : List Nat).map (fun (q : Nat) => (q : Int)))[j]? = some (t : Int) := by rw [List.getElem?_map, hj]; rfl
      exact h2
    rw [List.getElem?_map] at h1
    cases h3 : offs.toList[j]? with
    | none => rw [h3] at h1; cases h1
    | some o =>
      rw [h3] at h1
      exact ⟨o, by rw [← Array.getElem?_toList]; exact h3, Option.some.inj h1⟩
  · match j, hj, hx with
    | 0, hj, hx => simp at hj; subst hj; exact k0 hx
    | 1, hj, hx => simp at hj; subst hj; exact k1 hx
    | 2, hj, hx => simp at hj; subst hj; exact k2 hx
    | 3, hj, hx => simp at hj; subst hj; exact k3 hx
    | 4, hj, hx => simp at hj; subst hj; exact k4 hx
    | k + 5, hj, hx => simp at hj
theorem q_tab7 {M : q_M} {σ : q_S} {kc ks pc : Nat} {lv : List (Nat × Value)} {st : List Value} {Q : q_F} {dflt lo hi z : Int} {offs : Array Int} {len : Nat} {x : Int32} (t0 t1 t2 t3 t4 t5 t6 td : Nat) (hd : decode M.1.2.1 pc = .ok (.tableswitch dflt lo hi offs, len)) (hn : hi = lo + 7 - 1) (ho : offs.toList.map (fun o => (pc : Int) + o) = [(t0 : Int), (t1 : Int), (t2 : Int), (t3 : Int), (t4 : Int), (t5 : Int), (t6 : Int)]) (ht : (pc : Int) + dflt = (td : Int)) (hx : x.toInt = z) (k0 : z = lo + 0 → q_K M σ kc ks t0 lv st Q) (k1 : z = lo + 1 → q_K M σ kc ks t1 lv st Q) (k2 : z = lo + 2 → q_K M σ kc ks t2 lv st Q) (k3 : z = lo + 3 → q_K M σ kc ks t3 lv st Q) (k4 : z = lo + 4 → q_K M σ kc ks t4 lv st Q) (k5 : z = lo + 5 → q_K M σ kc ks t5 lv st Q) (k6 : z = lo + 6 → q_K M σ kc ks t6 lv st Q)
    (kd : (z < lo ∨ hi < z) → q_K M σ kc ks td lv st Q) : q_K M σ kc ks pc lv (.int x :: st) Q := by
  subst hx
  refine q_table [t0, t1, t2, t3, t4, t5, t6] td hd (by simpa using hn) (fun j t hj => ?_) ht (fun j t hj hx => ?_) kd
  · have h1 : (offs.toList.map (fun o => (pc : Int) + o))[j]? = some (t : Int) := by
      rw [ho]
      have h2 : (([t0, t1, t2, t3, t4, t5, t6] : List Nat).map (fun (q : Nat) => (q : Int)))[j]? = some (t : Int) := by rw [List.getElem?_map, hj]; rfl
      exact h2
    rw [List.getElem?_map] at h1
    cases h3 : offs.toList[j]? with
    | none => rw [h3] at h1; cases h1
    | some o =>
      rw [h3] at h1
      exact ⟨o, by rw [← Array.getElem?_toList]; exact h3, Option.some.inj h1⟩
  · match j, hj, hx with
    | 0, hj, hx => simp at hj; subst hj; exact k0 hx
    | 1, hj, hx => simp at hj; subst hj; exact k1 hx
    | 2, hj, hx => simp at hj; subst hj; exact k2 hx
    | 3, hj, hx => simp at hj; subst hj; exact k3 hx
    | 4, hj, hx => simp at hj; subst hj; exact k4 hx
    | 5, hj, hx => simp at hj; subst hj; exact k5 hx
    | 6, hj, hx => simp at hj; subst hj; exact k6 hx
    | k + 7, hj, hx => simp at hj
theorem q_tab11 {M : q_M} {σ : q_S} {kc ks pc : Nat} {lv : List (Nat × Value)} {st : List Value} {Q : q_F} {dflt lo hi z : Int} {offs : Array Int} {len : Nat} {x : Int32} (t0 t1 t2 t3 t4 t5 t6 t7 t8 t9 t10 td : Nat) (hd : decode M.1.2.1 pc = .ok (.tableswitch dflt lo hi offs, len)) (hn : hi = lo + 11 - 1) (ho : offs.toList.map (fun o => (pc : Int) + o) = [(t0 : Int), (t1 : Int), (t2 : Int), (t3 : Int), (t4 : Int), (t5 : Int), (t6 : Int), (t7 : Int), (t8 : Int), (t9 : Int), (t10 : Int)]) (ht : (pc : Int) + dflt = (td : Int)) (hx : x.toInt = z) (k0 : z = lo + 0 → q_K M σ kc ks t0 lv st Q) (k1 : z = lo + 1 → q_K M σ kc ks t1 lv st Q) (k2 : z = lo + 2 → q_K M σ kc ks t2 lv st Q) (k3 : z = lo + 3 → q_K M σ kc ks t3 lv st Q) (k4 : z = lo + 4 → q_K M σ kc ks t4 lv st Q) (k5 : z = lo + 5 → q_K M σ kc ks t5 lv st Q) (k6 : z = lo + 6 → q_K M σ kc ks t6 lv st Q) (k7 : z = lo + 7 → q_K M σ kc ks t7 lv st Q) (k8 : z = lo + 8 → q_K M σ kc ks t8 lv st Q) (k9 : z = lo + 9 → q_K M σ kc ks t9 lv st Q) (k10 : z = lo + 10 → q_K M σ kc ks t10 lv st Q)
    (kd : (z < lo ∨ hi < z) → q_K M σ kc ks td lv st Q) : q_K M σ kc ks pc lv (.int x :: st) Q := by
  subst hx
  refine q_table [t0, t1, t2, t3, t4, t5, t6, t7, t8, t9, t10] td hd (by simpa using hn) (fun j t hj => ?_) ht (fun j t hj hx => ?_) kd
  · have h1 : (offs.toList.map (fun o => (pc : Int) + o))[j]? = some (t : Int) := by
      rw [ho]
      have h2 : (([t0, t1, t2, t3, t4, t5, t6, t7, t8, t9, t10] : List Nat).map (fun (q : Nat) => (q : Int)))[j]? = some (t : Int) := by rw [List.getElem?_map, hj]; rfl
      exact h2
    rw [List.getElem?_map] at h1
    cases h3 : offs.toList[j]? with
    | none => rw [h3] at h1; cases h1
    | some o =>
      rw [h3] at h1
      exact ⟨o, by rw [← Array.getElem?_toList]; exact h3, Option.some.inj h1⟩
  · match j, hj, hx with
    | 0, hj, hx => simp at hj; subst hj; exact k0 hx
    | 1, hj, hx => simp at hj; subst hj; exact k1 hx
    | 2, hj, hx => simp at hj; subst hj; exact k2 hx
    | 3, hj, hx => simp at hj; subst hj; exact k3 hx
    | 4, hj, hx => simp at hj; subst hj; exact k4 hx
    | 5, hj, hx => simp at hj; subst hj; exact k5 hx
    | 6, hj, hx => simp at hj; subst hj; exact k6 hx
    | 7, hj, hx => simp at hj; subst hj; exact k7 hx
    | 8, hj, hx => simp at hj; subst hj; exact k8 hx
    | 9, hj, hx => simp at hj; subst hj; exact k9 hx
    | 10, hj, hx => simp at hj; subst hj; exact k10 hx
    | k + 11, hj, hx => simp at hj
theorem q_tab14 {M : q_M} {σ : q_S} {kc ks pc : Nat} {lv : List (Nat × Value)} {st : List Value} {Q : q_F} {dflt lo hi z : Int} {offs : Array Int} {len : Nat} {x : Int32} (t0 t1 t2 t3 t4 t5 t6 t7 t8 t9 t10 t11 t12 t13 td : Nat) (hd : decode M.1.2.1 pc = .ok (.tableswitch dflt lo hi offs, len)) (hn : hi = lo + 14 - 1) (ho : offs.toList.map (fun o => (pc : Int) + o) = [(t0 : Int), (t1 : Int), (t2 : Int), (t3 : Int), (t4 : Int), (t5 : Int), (t6 : Int), (t7 : Int), (t8 : Int), (t9 : Int), (t10 : Int), (t11 : Int), (t12 : Int), (t13 : Int)]) (ht : (pc : Int) + dflt = (td : Int)) (hx : x.toInt = z) (k0 : z = lo + 0 → q_K M σ kc ks t0 lv st Q) (k1 : z = lo + 1 → q_K M σ kc ks t1 lv st Q) (k2 : z = lo + 2 → q_K M σ kc ks t2 lv st Q) (k3 : z = lo + 3 → q_K M σ kc ks t3 lv st Q) (k4 : z = lo + 4 → q_K M σ kc ks t4 lv st Q) (k5 : z = lo + 5 → q_K M σ kc ks t5 lv st Q) (k6 : z = lo + 6 → q_K M σ kc ks t6 lv st Q) (k7 : z = lo + 7 → q_K M σ kc ks t7 lv st Q) (k8 : z = lo + 8 → q_K M σ kc ks t8 lv st Q) (k9 : z = lo + 9 → q_K M σ kc ks t9 lv st Q) (k10 : z = lo + 10 → q_K M σ kc ks t10 lv st Q) (k11 : z = lo + 11 → q_K M σ kc ks t11 lv st Q) (k12 : z = lo + 12 → q_K M σ kc ks t12 lv st Q) (k13 : z = lo + 13 → q_K M σ kc ks t13 lv st Q)
    (kd : (z < lo ∨ hi < z) → q_K M σ kc ks td lv st Q) : q_K M σ kc ks pc lv (.int x :: st) Q := by
  subst hx
  refine q_table [t0, t1, t2, t3, t4, t5, t6, t7, t8, t9, t10, t11, t12, t13] td hd (by simpa using hn) (fun j t hj => ?_) ht (fun j t hj hx => ?_) kd
  · have h1 : (offs.toList.map (fun o => (pc : Int) + o))[j]? = some (t : Int) := by
      rw [ho]
      have h2 : (([t0, t1, t2, t3, t4, t5, t6, t7, t8, t9, t10, t11, t12, t13] : List Nat).map (fun (q : Nat) => (q : Int)))[j]? = some (t : Int) := by rw [List.getElem?_map, hj]; rfl
      exact h2
    rw [List.getElem?_map] at h1
    cases h3 : offs.toList[j]? with
    | none => rw [h3] at h1; cases h1
    | some o =>
      rw [h3] at h1
      exact ⟨o, by rw [← Array.getElem?_toList]; exact h3, Option.some.inj h1⟩
  · match j, hj, hx with
    | 0, hj, hx => simp at hj; subst hj; exact k0 hx
    | 1, hj, hx => simp at hj; subst hj; exact k1 hx
    | 2, hj, hx => simp at hj; subst hj; exact k2 hx
    | 3, hj, hx => simp at hj; subst hj; exact k3 hx
    | 4, hj, hx => simp at hj; subst hj; exact k4 hx
    | 5, hj, hx => simp at hj; subst hj; exact k5 hx
    | 6, hj, hx => simp at hj; subst hj; exact k6 hx
    | 7, hj, hx => simp at hj; subst hj; exact k7 hx
    | 8, hj, hx => simp at hj; subst hj; exact k8 hx
    | 9, hj, hx => simp at hj; subst hj; exact k9 hx
    | 10, hj, hx => simp at hj; subst hj; exact k10 hx
    | 11, hj, hx => simp at hj; subst hj; exact k11 hx
    | 12, hj, hx => simp at hj; subst hj; exact k12 hx
    | 13, hj, hx => simp at hj; subst hj; exact k13 hx
    | k + 14, hj, hx => simp at hj
theorem q_tab15 {M : q_M} {σ : q_S} {kc ks pc : Nat} {lv : List (Nat × Value)} {st : List Value} {Q : q_F} {dflt lo hi z : Int} {offs : Array Int} {len : Nat} {x : Int32} (t0 t1 t2 t3 t4 t5 t6 t7 t8 t9 t10 t11 t12 t13 t14 td : Nat) (hd : decode M.1.2.1 pc = .ok (.tableswitch dflt lo hi offs, len)) (hn : hi = lo + 15 - 1) (ho : offs.toList.map (fun o => (pc : Int) + o) = [(t0 : Int), (t1 : Int), (t2 : Int), (t3 : Int), (t4 : Int), (t5 : Int), (t6 : Int), (t7 : Int), (t8 : Int), (t9 : Int), (t10 : Int), (t11 : Int), (t12 : Int), (t13 : Int), (t14 : Int)]) (ht : (pc : Int) + dflt = (td : Int)) (hx : x.toInt = z) (k0 : z = lo + 0 → q_K M σ kc ks t0 lv st Q) (k1 : z = lo + 1 → q_K M σ kc ks t1 lv st Q) (k2 : z = lo + 2 → q_K M σ kc ks t2 lv st Q) (k3 : z = lo + 3 → q_K M σ kc ks t3 lv st Q) (k4 : z = lo + 4 → q_K M σ kc ks t4 lv st Q) (k5 : z = lo + 5 → q_K M σ kc ks t5 lv st Q) (k6 : z = lo + 6 → q_K M σ kc ks t6 lv st Q) (k7 : z = lo + 7 → q_K M σ kc ks t7 lv st Q) (k8 : z = lo + 8 → q_K M σ kc ks t8 lv st Q) (k9 : z = lo + 9 → q_K M σ kc ks t9 lv st Q) (k10 : z = lo + 10 → q_K M σ kc ks t10 lv st Q) (k11 : z = lo + 11 → q_K M σ kc ks t11 lv st Q) (k12 : z = lo + 12 → q_K M σ kc ks t12 lv st Q) (k13 : z = lo + 13 → q_K M σ kc ks t13 lv st Q) (k14 : z = lo + 14 → q_K M σ kc ks t14 lv st Q)
    (kd : (z < lo ∨ hi < z) → q_K M σ kc ks td lv st Q) : q_K M σ kc ks pc lv (.int x :: st) Q := by
  subst hx
  refine q_table [t0, t1, t2, t3, t4, t5, t6, t7, t8, t9, t10, t11, t12, t13, t14] td hd (by simpa using hn) (fun j t hj => ?_) ht (fun j t hj hx => ?_) kd
  · have h1 : (offs.toList.map (fun o => (pc : Int) + o))[j]? = some (t : Int) := by
      rw [ho]
      have h2 : (([t0, t1, t2, t3, t4, t5, t6, t7, t8, t9, t10, t11, t12, t13, t14] : List Nat).map (fun (q : Nat) => (q : Int)))[j]? = some (t : Int) := by rw [List.getElem?_map, hj]; rfl
      exact h2
    rw [List.getElem?_map] at h1
    cases h3 : offs.toList[j]? with
    | none => rw [h3] at h1; cases h1
    | some o =>
      rw [h3] at h1
      exact ⟨o, by rw [← Array.getElem?_toList]; exact h3, Option.some.inj h1⟩
  · match j, hj, hx with
    | 0, hj, hx => simp at hj; subst hj; exact k0 hx
    | 1, hj, hx => simp at hj; subst hj; exact k1 hx
    | 2, hj, hx => simp at hj; subst hj; exact k2 hx
    | 3, hj, hx => simp at hj; subst hj; exact k3 hx
    | 4, hj, hx => simp at hj; subst hj; exact k4 hx
    | 5, hj, hx => simp at hj; subst hj; exact k5 hx
    | 6, hj, hx => simp at hj; subst hj; exact k6 hx
    | 7, hj, hx => simp at hj; subst hj; exact k7 hx
    | 8, hj, hx => simp at hj; subst hj; exact k8 hx
    | 9, hj, hx => simp at hj; subst hj; exact k9 hx
    | 10, hj, hx => simp at hj; subst hj; exact k10 hx
    | 11, hj, hx => simp at hj; subst hj; exact k11 hx
    | 12, hj, hx => simp at hj; subst hj; exact k12 hx
    | 13, hj, hx => simp at hj; subst hj; exact k13 hx
    | 14, hj, hx => simp at hj; subst hj; exact k14 hx
    | k + 15, hj, hx => simp at hj
theorem q_tab17 {M : q_M} {σ : q_S} {kc ks pc : Nat} {lv : List (Nat × Value)} {st : List Value} {Q : q_F} {dflt lo hi z : Int} {offs : Array Int} {len : Nat} {x : Int32} (t0 t1 t2 t3 t4 t5 t6 t7 t8 t9 t10 t11 t12 t13 t14 t15 t16 td : Nat) (hd : decode M.1.2.1 pc = .ok (.tableswitch dflt lo hi offs, len)) (hn : hi = lo + 17 - 1) (ho : offs.toList.map (fun o => (pc : Int) + o) = [(t0 : Int), (t1 : Int), (t2 : Int), (t3 : Int), (t4 : Int), (t5 : Int), (t6 : Int), (t7 : Int), (t8 : Int), (t9 : Int), (t10 : Int), (t11 : Int), (t12 : Int), (t13 : Int), (t14 : Int), (t15 : Int), (t16 : Int)]) (ht : (pc : Int) + dflt = (td : Int)) (hx : x.toInt = z) (k0 : z = lo + 0 → q_K M σ kc ks t0 lv st Q) (k1 : z = lo + 1 → q_K M σ kc ks t1 lv st Q) (k2 : z = lo + 2 → q_K M σ kc ks t2 lv st Q) (k3 : z = lo + 3 → q_K M σ kc ks t3 lv st Q) (k4 : z = lo + 4 → q_K M σ kc ks t4 lv st Q) (k5 : z = lo + 5 → q_K M σ kc ks t5 lv st Q) (k6 : z = lo + 6 → q_K M σ kc ks t6 lv st Q) (k7 : z = lo + 7 → q_K M σ kc ks t7 lv st Q) (k8 : z = lo + 8 → q_K M σ kc ks t8 lv st Q) (k9 : z = lo + 9 → q_K M σ kc ks t9 lv st Q) (k10 : z = lo + 10 → q_K M σ kc ks t10 lv st Q) (k11 : z = lo + 11 → q_K M σ kc ks t11 lv st Q) (k12 : z = lo + 12 → q_K M σ kc ks t12 lv st Q) (k13 : z = lo + 13 → q_K M σ kc ks t13 lv st Q) (k14 : z = lo + 14 → q_K M σ kc ks t14 lv st Q) (k15 : z = lo + 15 → q_K M σ kc ks t15 lv st Q) (k16 : z = lo + 16 → q_K M σ kc ks t16 lv st Q)
    (kd : (z < lo ∨ hi < z) → q_K M σ kc ks td lv st Q) : q_K M σ kc ks pc lv (.int x :: st) Q := by
  subst hx
  refine q_table [t0, t1, t2, t3, t4, t5, t6, t7, t8, t9, t10, t11, t12, t13, t14, t15, t16] td hd (by simpa using hn) (fun j t hj => ?_) ht (fun j t hj hx => ?_) kd
  · have h1 : (offs.toList.map (fun o => (pc : Int) + o))[j]? = some (t : Int) := by
      rw [ho]
      have h2 : (([t0, t1, t2, t3, t4, t5, t6, t7, t8, t9, t10, t11, t12, t13, t14, t15, t16] : List Nat).map (fun (q : Nat) => (q : Int)))[j]? = some (t : Int) := by rw [List.getElem?_map, hj]; rfl
      exact h2
    rw [List.getElem?_map] at h1
    cases h3 : offs.toList[j]? with
    | none => rw [h3] at h1; cases h1
    | some o =>
      rw [h3] at h1
      exact ⟨o, by rw [← Array.getElem?_toList]; exact h3, Option.some.inj h1⟩
  · match j, hj, hx with
    | 0, hj, hx => simp at hj; subst hj; exact k0 hx
    | 1, hj, hx => simp at hj; subst hj; exact k1 hx
    | 2, hj, hx => simp at hj; subst hj; exact k2 hx
    | 3, hj, hx => simp at hj; subst hj; exact k3 hx
    | 4, hj, hx => simp at hj; subst hj; exact k4 hx
    | 5, hj, hx => simp at hj; subst hj; exact k5 hx
    | 6, hj, hx => simp at hj; subst hj; exact k6 hx
    | 7, hj, hx => simp at hj; subst hj; exact k7 hx
    | 8, hj, hx => simp at hj; subst hj; exact k8 hx
    | 9, hj, hx => simp at hj; subst hj; exact k9 hx
    | 10, hj, hx => simp at hj; subst hj; exact k10 hx
    | 11, hj, hx => simp at hj; subst hj; exact k11 hx
    | 12, hj, hx => simp at hj; subst hj; exact k12 hx
    | 13, hj, hx => simp at hj; subst hj; exact k13 hx
    | 14, hj, hx => simp at hj; subst hj; exact k14 hx
    | 15, hj, hx => simp at hj; subst hj; exact k15 hx
    | 16, hj, hx => simp at hj; subst hj; exact k16 hx
    | k + 17, hj, hx => simp at hj
