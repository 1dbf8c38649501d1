/-! THE ROWS OVER Int. A state s: what the ints and the longs of the cells are, by cell and place. -/
abbrev ST : Type := (Nat → Int → Int) × (Nat → Int → Int64)
abbrev R32 (x : Int) : Prop := -2147483648 ≤ x ∧ x ≤ 2147483647
/-- keeps a predicate from being opened by 'intro' -/
def bx (p : Prop) : Prop := p ∧ True
def RA (s : ST) : Prop := ∀ i k, R32 (s.1 i k)
def qs (la : List (Nat × Nat)) (s : ST) : q_S := (fun i k => Int32.ofInt (s.1 i (k : Int)), fun i k => s.2 i (k : Int), q_R0, la)
def ui (s : ST) (i : Nat) (k v : Int) : ST := (fun a b => if a = i ∧ b = k then v else s.1 a b, s.2)
def uj (s : ST) (i : Nat) (k : Int) (v : Int64) : ST := (s.1, fun a b => if a = i ∧ b = k then v else s.2 a b)
def layX : List (Nat × Nat) := q_lay0.take 139 ++ (q_lay0.drop 139).map fun t => (50, t.2)
def layM : List (Nat × Nat) := (q_lay0.take 139).map (fun t => (50, t.2)) ++ q_lay0.drop 139
theorem ui_same {s : ST} {i : Nat} {k v : Int} : (ui s i k v).1 i k = v := by simp [ui]
theorem ui_cell {s : ST} {i : Nat} {k v : Int} {a : Nat} {b : Int} (h : a ≠ i) : (ui s i k v).1 a b = s.1 a b := by simp [ui, h]
theorem ui_ne {s : ST} {i : Nat} {k v : Int} {a : Nat} {b : Int} (h : b ≠ k) : (ui s i k v).1 a b = s.1 a b := by simp [ui, h]
theorem ui_j {s : ST} {i : Nat} {k v : Int} : (ui s i k v).2 = s.2 := rfl
theorem uj_i {s : ST} {i : Nat} {k : Int} {v : Int64} : (uj s i k v).1 = s.1 := rfl
theorem uj_same {s : ST} {i : Nat} {k : Int} {v : Int64} : (uj s i k v).2 i k = v := by simp [uj]
theorem uj_cell {s : ST} {i : Nat} {k : Int} {v : Int64} {a : Nat} {b : Int} (h : a ≠ i) : (uj s i k v).2 a b = s.2 a b := by simp [uj, h]
theorem uj_ne {s : ST} {i : Nat} {k : Int} {v : Int64} {a : Nat} {b : Int} (h : b ≠ k) : (uj s i k v).2 a b = s.2 a b := by simp [uj, h]
theorem ra_ui {s : ST} {i : Nat} {k v : Int} (h : RA s) (hv : R32 v) : RA (ui s i k v) := by
  intro a b
  by_cases e : a = i ∧ b = k
  · show R32 (if a = i ∧ b = k then v else s.1 a b); rw [if_pos e]; exact hv
  · show R32 (if a = i ∧ b = k then v else s.1 a b); rw [if_neg e]; exact h a b
theorem ra_uj {s : ST} {i : Nat} {k : Int} {v : Int64} (h : RA s) : RA (uj s i k v) := h
theorem ofz {x : Int} (h : R32 x) : (Int32.ofInt x).toInt = x := Int32.toInt_ofInt_of_le h.1 (by have := h.2; omega)
theorem zr (x : Int32) : R32 x.toInt := q_rng x
theorem r32l {x : Int} (h : (decide (-2147483648 ≤ x) && decide (x ≤ 2147483647)) = true) : R32 x := by
  rw [Bool.and_eq_true] at h
  exact ⟨of_decide_eq_true h.1, of_decide_eq_true h.2⟩
theorem r01 {x : Int} (h : x = 0 ∨ x = 1) : R32 x := ⟨by omega, by omega⟩
theorem z01 {x : Int} (h : x = 0 ∨ x = 1) : Int32.ofInt x = 0 ∨ Int32.ofInt x = 1 := by
  rcases h with h | h
  · exact Or.inl (by rw [h]; rfl)
  · exact Or.inr (by rw [h]; rfl)
def w32 (x : Int) : Int := (Int32.ofInt x).toInt
theorem w32_of (x : Int) : Int32.ofInt (w32 x) = Int32.ofInt x := Int32.ofInt_toInt _
theorem w32_r (x : Int) : R32 (w32 x) := zr _
theorem w32_id {x : Int} (h : R32 x) : w32 x = x := ofz h
def iand (x y : Int) : Int := (Int32.ofInt x &&& Int32.ofInt y).toInt
def ior (x y : Int) : Int := (Int32.ofInt x ||| Int32.ofInt y).toInt
def ixor (x y : Int) : Int := (Int32.ofInt x ^^^ Int32.ofInt y).toInt
def ishl (x y : Int) : Int := (Int32.ofInt x <<< (Int32.ofInt y &&& 31)).toInt
def ishr (x y : Int) : Int := (Int32.ofInt x >>> (Int32.ofInt y &&& 31)).toInt
def iushr (x y : Int) : Int := (((Int32.ofInt x).toUInt32 >>> ((Int32.ofInt y).toUInt32 &&& Int32.toUInt32 31)).toInt32).toInt
def i8 (x : Int) : Int := ((Int32.ofInt x).toInt8.toInt32).toInt
def l2i (x : Int64) : Int := x.toInt32.toInt
def lshl (x : Int64) (y : Int) : Int64 := x <<< ((Int32.ofInt y).toInt64 &&& 63)
def lshr (x : Int64) (y : Int) : Int64 := x >>> ((Int32.ofInt y).toInt64 &&& 63)
def lushr (x : Int64) (y : Int) : Int64 := (x.toUInt64 >>> ((Int32.ofInt y).toInt64.toUInt64 &&& Int64.toUInt64 63)).toInt64
def zmin (x y : Int) : Int := if y < x then y else x
def zarity (x : Int) : Int := (q_arity.getD x.toNat 0).toInt
def zkarity (x : Int) : Int := (q_karity.getD x.toNat 0).toInt
theorem iand_r (x y : Int) : R32 (iand x y) := zr _
theorem ior_r (x y : Int) : R32 (ior x y) := zr _
theorem ixor_r (x y : Int) : R32 (ixor x y) := zr _
theorem ishl_r (x y : Int) : R32 (ishl x y) := zr _
theorem ishr_r (x y : Int) : R32 (ishr x y) := zr _
theorem iushr_r (x y : Int) : R32 (iushr x y) := zr _
theorem i8_r (x : Int) : R32 (i8 x) := zr _
theorem l2i_r (x : Int64) : R32 (l2i x) := zr _
theorem zarity_r (x : Int) : R32 (zarity x) := zr _
theorem zkarity_r (x : Int) : R32 (zkarity x) := zr _
theorem zarity_v (x : Int) : q_arity.getD x.toNat 0 = Int32.ofInt (zarity x) := (Int32.ofInt_toInt _).symm
theorem zkarity_v (x : Int) : q_karity.getD x.toNat 0 = Int32.ofInt (zkarity x) := (Int32.ofInt_toInt _).symm
theorem zmin_r {x y : Int} (hx : R32 x) (hy : R32 y) : R32 (zmin x y) := by
  unfold zmin; split
  · exact hy
  · exact hx
theorem qs_ui {la : List (Nat × Nat)} {s : ST} {i k : Nat} {kz v : Int} (hk : kz = (k : Int)) : q_ui (qs la s) i k (Int32.ofInt v) = qs la (ui s i kz v) := by
  subst hk
  show (_, _) = (_, _)
  congr 1
  funext a b
  show (if a = i ∧ b = k then Int32.ofInt v else Int32.ofInt (s.1 a (b : Int))) = Int32.ofInt (if a = i ∧ (b : Int) = (k : Int) then v else s.1 a (b : Int))
  by_cases e : a = i ∧ b = k
  · rw [if_pos e, if_pos ⟨e.1, by rw [e.2]⟩]
  · rw [if_neg e, if_neg (fun q => e ⟨q.1, Int.ofNat.inj q.2⟩)]
theorem qs_uj {la : List (Nat × Nat)} {s : ST} {i k : Nat} {kz : Int} {v : Int64} (hk : kz = (k : Int)) : q_uj (qs la s) i k v = qs la (uj s i kz v) := by
  subst hk
  show (_, (_, _)) = (_, (_, _))
  congr 2
  funext a b
  show (if a = i ∧ b = k then v else s.2 a (b : Int)) = (if a = i ∧ (b : Int) = (k : Int) then v else s.2 a (b : Int))
  by_cases e : a = i ∧ b = k
  · rw [if_pos e, if_pos ⟨e.1, by rw [e.2]⟩]
  · rw [if_neg e, if_neg (fun q => e ⟨q.1, Int.ofNat.inj q.2⟩)]
/-- what a method's end says: nothing, an int, a truth, a long -/
def PV (la : List (Nat × Nat)) (Q : ST → Prop) : q_P := fun σ r => ∃ s', σ = qs la s' ∧ RA s' ∧ r = none ∧ Q s'
def PI (la : List (Nat × Nat)) (Q : ST → Int → Prop) : q_P := fun σ r => ∃ s' v, σ = qs la s' ∧ RA s' ∧ R32 v ∧ r = some (.int (Int32.ofInt v)) ∧ Q s' v
def PB (la : List (Nat × Nat)) (Q : ST → Int → Prop) : q_P := fun σ r => ∃ s' v, σ = qs la s' ∧ RA s' ∧ (v = 0 ∨ v = 1) ∧ r = some (.int (Int32.ofInt v)) ∧ Q s' v
def PL (la : List (Nat × Nat)) (Q : ST → Int64 → Prop) : q_P := fun σ r => ∃ s' v, σ = qs la s' ∧ RA s' ∧ r = some (.long v) ∧ Q s' v
theorem PV.mono {la : List (Nat × Nat)} {Q Q' : ST → Prop} (h : ∀ s, Q s → Q' s) {σ : q_S} {r : Option Value} (q : PV la Q σ r) : PV la Q' σ r := by
  obtain ⟨s, a, b, c, d⟩ := q
  exact ⟨s, a, b, c, h _ d⟩
theorem PI.mono {la : List (Nat × Nat)} {Q Q' : ST → Int → Prop} (h : ∀ s v, Q s v → Q' s v) {σ : q_S} {r : Option Value} (q : PI la Q σ r) : PI la Q' σ r := by
  obtain ⟨s, v, a, b, c, d, e⟩ := q
  exact ⟨s, v, a, b, c, d, h _ _ e⟩
theorem PB.mono {la : List (Nat × Nat)} {Q Q' : ST → Int → Prop} (h : ∀ s v, Q s v → Q' s v) {σ : q_S} {r : Option Value} (q : PB la Q σ r) : PB la Q' σ r := by
  obtain ⟨s, v, a, b, c, d, e⟩ := q
  exact ⟨s, v, a, b, c, d, h _ _ e⟩
theorem PL.mono {la : List (Nat × Nat)} {Q Q' : ST → Int64 → Prop} (h : ∀ s v, Q s v → Q' s v) {σ : q_S} {r : Option Value} (q : PL la Q σ r) : PL la Q' σ r := by
  obtain ⟨s, v, a, b, d, e⟩ := q
  exact ⟨s, v, a, b, d, h _ _ e⟩
section ZS
variable {M : q_M} {la : List (Nat × Nat)} {s : ST} {kc ks pc : Nat} {lv : List (Nat × Value)} {st : List Value} {Q : q_F}
theorem z_iadd {x y : Int} (hd : decode M.1.2.1 pc = .ok (.iadd, 1)) (k : q_K M (qs la s) kc ks (pc + 1) lv (.int (Int32.ofInt (x + y)) :: st) Q) : q_K M (qs la s) kc ks pc lv (.int (Int32.ofInt y) :: .int (Int32.ofInt x) :: st) Q := q_iadd hd (by rw [← Int32.ofInt_add]; exact k)
theorem z_isub {x y : Int} (hd : decode M.1.2.1 pc = .ok (.isub, 1)) (k : q_K M (qs la s) kc ks (pc + 1) lv (.int (Int32.ofInt (x - y)) :: st) Q) : q_K M (qs la s) kc ks pc lv (.int (Int32.ofInt y) :: .int (Int32.ofInt x) :: st) Q := q_isub hd (by rw [← Int32.ofInt_sub]; exact k)
theorem z_imul {x y : Int} (hd : decode M.1.2.1 pc = .ok (.imul, 1)) (k : q_K M (qs la s) kc ks (pc + 1) lv (.int (Int32.ofInt (x * y)) :: st) Q) : q_K M (qs la s) kc ks pc lv (.int (Int32.ofInt y) :: .int (Int32.ofInt x) :: st) Q := q_imul hd (by rw [← Int32.ofInt_mul]; exact k)
theorem z_iand {x y : Int} (hd : decode M.1.2.1 pc = .ok (.iand, 1)) (k : q_K M (qs la s) kc ks (pc + 1) lv (.int (Int32.ofInt (iand x y)) :: st) Q) : q_K M (qs la s) kc ks pc lv (.int (Int32.ofInt y) :: .int (Int32.ofInt x) :: st) Q := q_iand hd (q_topI (Int32.ofInt_toInt _).symm k)
theorem z_ior {x y : Int} (hd : decode M.1.2.1 pc = .ok (.ior, 1)) (k : q_K M (qs la s) kc ks (pc + 1) lv (.int (Int32.ofInt (ior x y)) :: st) Q) : q_K M (qs la s) kc ks pc lv (.int (Int32.ofInt y) :: .int (Int32.ofInt x) :: st) Q := q_ior hd (q_topI (Int32.ofInt_toInt _).symm k)
theorem z_ixor {x y : Int} (hd : decode M.1.2.1 pc = .ok (.ixor, 1)) (k : q_K M (qs la s) kc ks (pc + 1) lv (.int (Int32.ofInt (ixor x y)) :: st) Q) : q_K M (qs la s) kc ks pc lv (.int (Int32.ofInt y) :: .int (Int32.ofInt x) :: st) Q := q_ixor hd (q_topI (Int32.ofInt_toInt _).symm k)
theorem z_ishl {x y : Int} (hd : decode M.1.2.1 pc = .ok (.ishl, 1)) (k : q_K M (qs la s) kc ks (pc + 1) lv (.int (Int32.ofInt (ishl x y)) :: st) Q) : q_K M (qs la s) kc ks pc lv (.int (Int32.ofInt y) :: .int (Int32.ofInt x) :: st) Q := q_ishl hd (q_topI (Int32.ofInt_toInt _).symm k)
theorem z_ishr {x y : Int} (hd : decode M.1.2.1 pc = .ok (.ishr, 1)) (k : q_K M (qs la s) kc ks (pc + 1) lv (.int (Int32.ofInt (ishr x y)) :: st) Q) : q_K M (qs la s) kc ks pc lv (.int (Int32.ofInt y) :: .int (Int32.ofInt x) :: st) Q := q_ishr hd (q_topI (Int32.ofInt_toInt _).symm k)
theorem z_iushr {x y : Int} (hd : decode M.1.2.1 pc = .ok (.iushr, 1)) (k : q_K M (qs la s) kc ks (pc + 1) lv (.int (Int32.ofInt (iushr x y)) :: st) Q) : q_K M (qs la s) kc ks pc lv (.int (Int32.ofInt y) :: .int (Int32.ofInt x) :: st) Q := q_iushr hd (q_topI (Int32.ofInt_toInt _).symm k)
theorem z_lshl {x : Int64} {y : Int} (hd : decode M.1.2.1 pc = .ok (.lshl, 1)) (k : q_K M (qs la s) kc ks (pc + 1) lv (.long (lshl x y) :: st) Q) : q_K M (qs la s) kc ks pc lv (.int (Int32.ofInt y) :: .long x :: st) Q := q_lshl hd k
theorem z_lshr {x : Int64} {y : Int} (hd : decode M.1.2.1 pc = .ok (.lshr, 1)) (k : q_K M (qs la s) kc ks (pc + 1) lv (.long (lshr x y) :: st) Q) : q_K M (qs la s) kc ks pc lv (.int (Int32.ofInt y) :: .long x :: st) Q := q_lshr hd k
theorem z_lushr {x : Int64} {y : Int} (hd : decode M.1.2.1 pc = .ok (.lushr, 1)) (k : q_K M (qs la s) kc ks (pc + 1) lv (.long (lushr x y) :: st) Q) : q_K M (qs la s) kc ks pc lv (.int (Int32.ofInt y) :: .long x :: st) Q := q_lushr hd k
theorem z_i2l {x : Int} (hd : decode M.1.2.1 pc = .ok (.i2l, 1)) (hx : R32 x) (k : q_K M (qs la s) kc ks (pc + 1) lv (.long (Int64.ofInt x) :: st) Q) : q_K M (qs la s) kc ks pc lv (.int (Int32.ofInt x) :: st) Q := q_i2l hd (q_topL (v := Int64.ofInt x) (by rw [← Int64.ofInt_int32ToInt, ofz hx]) k)
theorem z_l2i {x : Int64} (hd : decode M.1.2.1 pc = .ok (.l2i, 1)) (k : q_K M (qs la s) kc ks (pc + 1) lv (.int (Int32.ofInt (l2i x)) :: st) Q) : q_K M (qs la s) kc ks pc lv (.long x :: st) Q := q_l2i hd (q_topI (Int32.ofInt_toInt _).symm k)
theorem z_i2b {x : Int} (hd : decode M.1.2.1 pc = .ok (.i2b, 1)) (k : q_K M (qs la s) kc ks (pc + 1) lv (.int (Int32.ofInt (i8 x)) :: st) Q) : q_K M (qs la s) kc ks pc lv (.int (Int32.ofInt x) :: st) Q := q_i2b hd (q_topI (Int32.ofInt_toInt _).symm k)
theorem z_inc {i : Nat} {n m x : Int} (hd : decode M.1.2.1 pc = .ok (.iinc i n, 3)) (hk : q_lk lv i = some (.int (Int32.ofInt x))) (hn : i < M.1.2.2.1) (hm : n = m) (k : q_K M (qs la s) kc ks (pc + 3) (q_st1 lv i (.int (Int32.ofInt (x + m)))) st Q) : q_K M (qs la s) kc ks pc lv st Q := q_iinc hd hk hn (by rw [← Int32.ofInt_add, hm]; exact k)
theorem z_incN {i : Nat} {n m x : Int} (hd : decode M.1.2.1 pc = .ok (.iinc i n, 3)) (hk : q_lk lv i = some (.int (Int32.ofInt x))) (hn : i < M.1.2.2.1) (hm : n = -m) (k : q_K M (qs la s) kc ks (pc + 3) (q_st1 lv i (.int (Int32.ofInt (x - m)))) st Q) : q_K M (qs la s) kc ks pc lv st Q := q_iinc hd hk hn (by rw [← Int32.ofInt_add, hm, ← Int.sub_eq_add_neg]; exact k)
theorem z_incW {i : Nat} {n m x : Int} (hd : decode M.1.2.1 pc = .ok (.iinc i n, 3)) (hk : q_lk lv i = some (.int (Int32.ofInt x))) (hn : i < M.1.2.2.1) (hm : n = m) (k : q_K M (qs la s) kc ks (pc + 3) (q_st1 lv i (.int (Int32.ofInt (w32 (x + m))))) st Q) : q_K M (qs la s) kc ks pc lv st Q := z_inc hd hk hn hm (by rw [← w32_of]; exact k)
theorem z_incWN {i : Nat} {n m x : Int} (hd : decode M.1.2.1 pc = .ok (.iinc i n, 3)) (hk : q_lk lv i = some (.int (Int32.ofInt x))) (hn : i < M.1.2.2.1) (hm : n = -m) (k : q_K M (qs la s) kc ks (pc + 3) (q_st1 lv i (.int (Int32.ofInt (w32 (x - m))))) st Q) : q_K M (qs la s) kc ks pc lv st Q := z_incN hd hk hn hm (by rw [← w32_of]; exact k)
theorem z_incL {i : Nat} {n r x : Int} (hd : decode M.1.2.1 pc = .ok (.iinc i n, 3)) (hk : q_lk lv i = some (.int (Int32.ofInt x))) (hn : i < M.1.2.2.1) (hm : Int32.ofInt x + Int32.ofInt n = Int32.ofInt r) (k : q_K M (qs la s) kc ks (pc + 3) (q_st1 lv i (.int (Int32.ofInt r))) st Q) : q_K M (qs la s) kc ks pc lv st Q := q_iinc hd hk hn (by rw [hm]; exact k)
theorem z_iald {i n : Nat} {x : Int32} {z : Int} (hd : decode M.1.2.1 pc = .ok (.iaload, 1)) (hi : la[i]? = some (20, n)) (hx : x.toInt = z) (hb : 0 ≤ z ∧ z < (n : Int)) (k : q_K M (qs la s) kc ks (pc + 1) lv (.int (Int32.ofInt (s.1 i z)) :: st) Q) : q_K M (qs la s) kc ks pc lv (.int x :: .ref i :: st) Q :=
  q_ialdz hd hi hx hb.1 hb.2 (q_topI (show Int32.ofInt (s.1 i (z.toNat : Int)) = Int32.ofInt (s.1 i z) by rw [Int.toNat_of_nonneg hb.1]) k)
theorem z_bald {i n : Nat} {x : Int32} {z : Int} (hd : decode M.1.2.1 pc = .ok (.baload, 1)) (hi : la[i]? = some (22, n)) (hx : x.toInt = z) (hb : 0 ≤ z ∧ z < (n : Int)) (k : q_K M (qs la s) kc ks (pc + 1) lv (.int (Int32.ofInt (s.1 i z)) :: st) Q) : q_K M (qs la s) kc ks pc lv (.int x :: .ref i :: st) Q :=
  q_baldz hd hi hx hb.1 hb.2 (q_topI (show Int32.ofInt (s.1 i (z.toNat : Int)) = Int32.ofInt (s.1 i z) by rw [Int.toNat_of_nonneg hb.1]) k)
theorem z_zald {i n : Nat} {x : Int32} {z : Int} (hd : decode M.1.2.1 pc = .ok (.baload, 1)) (hi : la[i]? = some (23, n)) (hx : x.toInt = z) (hb : 0 ≤ z ∧ z < (n : Int)) (k : q_K M (qs la s) kc ks (pc + 1) lv (.int (Int32.ofInt (s.1 i z)) :: st) Q) : q_K M (qs la s) kc ks pc lv (.int x :: .ref i :: st) Q :=
  q_zaldz hd hi hx hb.1 hb.2 (q_topI (show Int32.ofInt (s.1 i (z.toNat : Int)) = Int32.ofInt (s.1 i z) by rw [Int.toNat_of_nonneg hb.1]) k)
theorem z_lald {i n : Nat} {x : Int32} {z : Int} (hd : decode M.1.2.1 pc = .ok (.laload, 1)) (hi : la[i]? = some (21, n)) (hx : x.toInt = z) (hb : 0 ≤ z ∧ z < (n : Int)) (k : q_K M (qs la s) kc ks (pc + 1) lv (.long (s.2 i z) :: st) Q) : q_K M (qs la s) kc ks pc lv (.int x :: .ref i :: st) Q :=
  q_laldz hd hi hx hb.1 hb.2 (q_topL (show s.2 i (z.toNat : Int) = s.2 i z by rw [Int.toNat_of_nonneg hb.1]) k)
theorem q_Keq' {σ σ' : q_S} (h : σ = σ') (k : q_K M σ' kc ks pc lv st Q) : q_K M σ kc ks pc lv st Q := h ▸ k
theorem z_iast {i n : Nat} {x : Int32} {z v : Int} (hd : decode M.1.2.1 pc = .ok (.iastore, 1)) (hi : la[i]? = some (20, n)) (hx : x.toInt = z) (hb : 0 ≤ z ∧ z < (n : Int)) (k : q_K M (qs la (ui s i z v)) kc ks (pc + 1) lv st Q) : q_K M (qs la s) kc ks pc lv (.int (Int32.ofInt v) :: .int x :: .ref i :: st) Q :=
  q_iastz hd hi hx hb.1 hb.2 (q_Keq' (qs_ui (Int.toNat_of_nonneg hb.1).symm) k)
theorem z_bast {i n : Nat} {x : Int32} {z v : Int} (hd : decode M.1.2.1 pc = .ok (.bastore, 1)) (hi : la[i]? = some (22, n)) (hx : x.toInt = z) (hb : 0 ≤ z ∧ z < (n : Int)) (k : q_K M (qs la (ui s i z (i8 v))) kc ks (pc + 1) lv st Q) : q_K M (qs la s) kc ks pc lv (.int (Int32.ofInt v) :: .int x :: .ref i :: st) Q :=
  q_bastz hd hi hx hb.1 hb.2 (q_Keq' ((congrArg (q_ui (qs la s) i z.toNat) (Int32.ofInt_toInt _).symm).trans (qs_ui (v := i8 v) (Int.toNat_of_nonneg hb.1).symm)) k)
theorem z_zast {i n : Nat} {x : Int32} {z v : Int} (hd : decode M.1.2.1 pc = .ok (.bastore, 1)) (hi : la[i]? = some (23, n)) (hx : x.toInt = z) (hb : 0 ≤ z ∧ z < (n : Int)) (h01 : Int32.ofInt v = 0 ∨ Int32.ofInt v = 1) (k : q_K M (qs la (ui s i z v)) kc ks (pc + 1) lv st Q) : q_K M (qs la s) kc ks pc lv (.int (Int32.ofInt v) :: .int x :: .ref i :: st) Q :=
  q_zastz hd hi hx hb.1 hb.2 h01 (q_Keq' (qs_ui (Int.toNat_of_nonneg hb.1).symm) k)
theorem z_last {i n : Nat} {x : Int32} {z : Int} {v : Int64} (hd : decode M.1.2.1 pc = .ok (.lastore, 1)) (hi : la[i]? = some (21, n)) (hx : x.toInt = z) (hb : 0 ≤ z ∧ z < (n : Int)) (k : q_K M (qs la (uj s i z v)) kc ks (pc + 1) lv st Q) : q_K M (qs la s) kc ks pc lv (.long v :: .int x :: .ref i :: st) Q :=
  q_lastz hd hi hx hb.1 hb.2 (q_Keq' (qs_uj (Int.toNat_of_nonneg hb.1).symm) k)
theorem z_putI {c n i k idx : Nat} {kz v : Int} (hd : decode M.1.2.1 pc = .ok (.putfield idx, 3)) (hi : la[i]? = some (c, n)) (hc : c < 12) (hk : k < q_N c) (hlink : Cond.fieldLink M.1.1.cls idx (q_T c k).1 (q_T c k).2.1 (q_T c k).2.2.1 ∈ q_gt) (hfin : (q_T c k).2.2.2 = false) (hty : q_ty c k = .int) (hz : kz = (k : Int)) (kk : q_K M (qs la (ui s i kz v)) kc ks (pc + 3) lv st Q) : q_K M (qs la s) kc ks pc lv (.int (Int32.ofInt v) :: .ref i :: st) Q :=
  q_putI hd hi hc hk hlink hfin hty (q_Keq' (qs_ui hz) kk)
theorem z_putZ {c n i k idx : Nat} {kz v : Int} (hd : decode M.1.2.1 pc = .ok (.putfield idx, 3)) (hi : la[i]? = some (c, n)) (hc : c < 12) (hk : k < q_N c) (hlink : Cond.fieldLink M.1.1.cls idx (q_T c k).1 (q_T c k).2.1 (q_T c k).2.2.1 ∈ q_gt) (hfin : (q_T c k).2.2.2 = false) (hty : q_ty c k = .boolean) (hz : kz = (k : Int)) (h01 : Int32.ofInt v = 0 ∨ Int32.ofInt v = 1) (kk : q_K M (qs la (ui s i kz v)) kc ks (pc + 3) lv st Q) : q_K M (qs la s) kc ks pc lv (.int (Int32.ofInt v) :: .ref i :: st) Q :=
  q_putZ hd hi hc hk hlink hfin hty h01 (q_Keq' (qs_ui hz) kk)
theorem z_putJ {c n i k idx : Nat} {kz : Int} {v : Int64} (hd : decode M.1.2.1 pc = .ok (.putfield idx, 3)) (hi : la[i]? = some (c, n)) (hc : c < 12) (hk : k < q_N c) (hlink : Cond.fieldLink M.1.1.cls idx (q_T c k).1 (q_T c k).2.1 (q_T c k).2.2.1 ∈ q_gt) (hfin : (q_T c k).2.2.2 = false) (hty : q_ty c k = .long) (hz : kz = (k : Int)) (kk : q_K M (qs la (uj s i kz v)) kc ks (pc + 3) lv st Q) : q_K M (qs la s) kc ks pc lv (.long v :: .ref i :: st) Q :=
  q_putJ hd hi hc hk hlink hfin hty (q_Keq' (qs_uj hz) kk)
theorem lg_cmp_eq0 {x y : Int64} : lg_cmp x y = 0 ↔ x = y := by
  unfold lg_cmp
  by_cases h1 : x > y
  · rw [if_pos h1]
    exact ⟨fun h => absurd h (by decide), fun h => absurd (h ▸ h1) (Int64.lt_irrefl)⟩
  · rw [if_neg h1]
    by_cases h2 : x = y
    · rw [if_pos h2]; exact ⟨fun _ => h2, fun _ => rfl⟩
    · rw [if_neg h2]; exact ⟨fun h => absurd h (by decide), fun h => absurd h h2⟩
theorem lg_cmp_lt0 {x y : Int64} : lg_cmp x y < 0 ↔ x < y := by
  rw [← Int32.not_le, lg_cmp_ge, Int64.not_le]
theorem lg_cmp_gt0 {x y : Int64} : 0 < lg_cmp x y ↔ y < x := by
  rw [← Int32.not_le, lg_cmp_le, Int64.not_le]
theorem z_lc_eq {x y : Int64} {off : Int} {tgt : Nat} (hd : decode M.1.2.1 pc = .ok (.ifCond .eq off, 3)) (ht : (pc : Int) + off = (tgt : Int)) (kt : x = y → q_K M (qs la s) kc ks tgt lv st Q) (kf : ¬ x = y → q_K M (qs la s) kc ks (pc + 3) lv st Q) : q_K M (qs la s) kc ks pc lv (.int (lg_cmp x y) :: st) Q := q_if_eq hd ht (fun h => kt (lg_cmp_eq0.mp h)) (fun h => kf (fun e => h (lg_cmp_eq0.mpr e)))
theorem z_lc_ne {x y : Int64} {off : Int} {tgt : Nat} (hd : decode M.1.2.1 pc = .ok (.ifCond .ne off, 3)) (ht : (pc : Int) + off = (tgt : Int)) (kt : ¬ x = y → q_K M (qs la s) kc ks tgt lv st Q) (kf : x = y → q_K M (qs la s) kc ks (pc + 3) lv st Q) : q_K M (qs la s) kc ks pc lv (.int (lg_cmp x y) :: st) Q := q_if_ne hd ht (fun h => kt (fun e => h (lg_cmp_eq0.mpr e))) (fun h => kf (lg_cmp_eq0.mp h))
theorem z_lc_lt {x y : Int64} {off : Int} {tgt : Nat} (hd : decode M.1.2.1 pc = .ok (.ifCond .lt off, 3)) (ht : (pc : Int) + off = (tgt : Int)) (kt : x < y → q_K M (qs la s) kc ks tgt lv st Q) (kf : ¬ x < y → q_K M (qs la s) kc ks (pc + 3) lv st Q) : q_K M (qs la s) kc ks pc lv (.int (lg_cmp x y) :: st) Q := q_if_lt hd ht (fun h => kt (lg_cmp_lt0.mp h)) (fun h => kf (fun e => h (lg_cmp_lt0.mpr e)))
theorem z_lc_ge {x y : Int64} {off : Int} {tgt : Nat} (hd : decode M.1.2.1 pc = .ok (.ifCond .ge off, 3)) (ht : (pc : Int) + off = (tgt : Int)) (kt : ¬ x < y → q_K M (qs la s) kc ks tgt lv st Q) (kf : x < y → q_K M (qs la s) kc ks (pc + 3) lv st Q) : q_K M (qs la s) kc ks pc lv (.int (lg_cmp x y) :: st) Q := q_if_ge hd ht (fun h => kt (fun e => absurd h (Int32.not_le.mpr (lg_cmp_lt0.mpr e)))) (fun h => kf (lg_cmp_lt0.mp (Int32.not_le.mp h)))
theorem z_lc_gt {x y : Int64} {off : Int} {tgt : Nat} (hd : decode M.1.2.1 pc = .ok (.ifCond .gt off, 3)) (ht : (pc : Int) + off = (tgt : Int)) (kt : y < x → q_K M (qs la s) kc ks tgt lv st Q) (kf : ¬ y < x → q_K M (qs la s) kc ks (pc + 3) lv st Q) : q_K M (qs la s) kc ks pc lv (.int (lg_cmp x y) :: st) Q := q_if_gt hd ht (fun h => kt (lg_cmp_gt0.mp h)) (fun h => kf (fun e => h (lg_cmp_gt0.mpr e)))
theorem z_lc_le {x y : Int64} {off : Int} {tgt : Nat} (hd : decode M.1.2.1 pc = .ok (.ifCond .le off, 3)) (ht : (pc : Int) + off = (tgt : Int)) (kt : ¬ y < x → q_K M (qs la s) kc ks tgt lv st Q) (kf : y < x → q_K M (qs la s) kc ks (pc + 3) lv st Q) : q_K M (qs la s) kc ks pc lv (.int (lg_cmp x y) :: st) Q := q_if_le hd ht (fun h => kt (fun e => absurd h (Int32.not_le.mpr (lg_cmp_gt0.mpr e)))) (fun h => kf (lg_cmp_gt0.mp (Int32.not_le.mp h)))
end ZS
