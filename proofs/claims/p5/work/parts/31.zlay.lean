/-! TREES, ASKINGS AND ROWS AS SYMBOLS; copies, boxes, the lesser of two. By program (wip/wp/gen_lay31.py). -/
abbrev isT (t : Nat) : Prop := t = 2 ∨ t = 18 ∨ t = 94 ∨ t = 109 ∨ t = 124
abbrev isA (a : Nat) : Prop := a = 51 ∨ a = 59
abbrev isW (r : Nat) : Prop := r = 34 ∨ r = 50
def akT (a : Nat) : Nat := if a = 51 then 2 else 18
def boxT (z : Int) : Nat := 94 + 15 * z.toNat
theorem akT_ok {a : Nat} (h : isA a) : isT (akT a) := by
  rcases h with rfl | rfl
  · exact Or.inl rfl
  · exact Or.inr (Or.inl rfl)
theorem boxT_of {z : Int} (h : 0 ≤ z ∧ z < 3) : z = 0 ∨ z = 1 ∨ z = 2 := by omega
theorem boxT_ok {z : Int} (h : 0 ≤ z ∧ z < 3) : isT (boxT z) := by
  rcases boxT_of h with rfl | rfl | rfl
  · exact Or.inr (Or.inr (Or.inl rfl))
  · exact Or.inr (Or.inr (Or.inr (Or.inl rfl)))
  · exact Or.inr (Or.inr (Or.inr (Or.inr rfl)))
theorem tl_0 {t : Nat} (h : isT t) : layX[t]? = some (9, 0) := by
  rcases h with rfl | rfl | rfl | rfl | rfl <;> rfl
theorem tl_1 {t : Nat} (h : isT t) : layX[t + 1]? = some (21, 8) := by
  rcases h with rfl | rfl | rfl | rfl | rfl <;> rfl
theorem tr_3 {t : Nat} (h : isT t) : q_R0 t 3 = some (t + 1) := by
  rcases h with rfl | rfl | rfl | rfl | rfl <;> rfl
theorem tl_2 {t : Nat} (h : isT t) : layX[t + 2]? = some (20, 8) := by
  rcases h with rfl | rfl | rfl | rfl | rfl <;> rfl
theorem tr_4 {t : Nat} (h : isT t) : q_R0 t 4 = some (t + 2) := by
  rcases h with rfl | rfl | rfl | rfl | rfl <;> rfl
theorem tl_3 {t : Nat} (h : isT t) : layX[t + 3]? = some (20, 40) := by
  rcases h with rfl | rfl | rfl | rfl | rfl <;> rfl
theorem tr_5 {t : Nat} (h : isT t) : q_R0 t 5 = some (t + 3) := by
  rcases h with rfl | rfl | rfl | rfl | rfl <;> rfl
theorem tl_4 {t : Nat} (h : isT t) : layX[t + 4]? = some (20, 40) := by
  rcases h with rfl | rfl | rfl | rfl | rfl <;> rfl
theorem tr_6 {t : Nat} (h : isT t) : q_R0 t 6 = some (t + 4) := by
  rcases h with rfl | rfl | rfl | rfl | rfl <;> rfl
theorem tl_5 {t : Nat} (h : isT t) : layX[t + 5]? = some (20, 40) := by
  rcases h with rfl | rfl | rfl | rfl | rfl <;> rfl
theorem tr_7 {t : Nat} (h : isT t) : q_R0 t 7 = some (t + 5) := by
  rcases h with rfl | rfl | rfl | rfl | rfl <;> rfl
theorem tl_6 {t : Nat} (h : isT t) : layX[t + 6]? = some (20, 40) := by
  rcases h with rfl | rfl | rfl | rfl | rfl <;> rfl
theorem tr_8 {t : Nat} (h : isT t) : q_R0 t 8 = some (t + 6) := by
  rcases h with rfl | rfl | rfl | rfl | rfl <;> rfl
theorem tl_7 {t : Nat} (h : isT t) : layX[t + 7]? = some (20, 40) := by
  rcases h with rfl | rfl | rfl | rfl | rfl <;> rfl
theorem tr_9 {t : Nat} (h : isT t) : q_R0 t 9 = some (t + 7) := by
  rcases h with rfl | rfl | rfl | rfl | rfl <;> rfl
theorem tl_8 {t : Nat} (h : isT t) : layX[t + 8]? = some (20, 40) := by
  rcases h with rfl | rfl | rfl | rfl | rfl <;> rfl
theorem tr_10 {t : Nat} (h : isT t) : q_R0 t 10 = some (t + 8) := by
  rcases h with rfl | rfl | rfl | rfl | rfl <;> rfl
theorem tl_9 {t : Nat} (h : isT t) : layX[t + 9]? = some (20, 120) := by
  rcases h with rfl | rfl | rfl | rfl | rfl <;> rfl
theorem tr_11 {t : Nat} (h : isT t) : q_R0 t 11 = some (t + 9) := by
  rcases h with rfl | rfl | rfl | rfl | rfl <;> rfl
theorem tl_10 {t : Nat} (h : isT t) : layX[t + 10]? = some (21, 40) := by
  rcases h with rfl | rfl | rfl | rfl | rfl <;> rfl
theorem tr_12 {t : Nat} (h : isT t) : q_R0 t 12 = some (t + 10) := by
  rcases h with rfl | rfl | rfl | rfl | rfl <;> rfl
theorem tl_11 {t : Nat} (h : isT t) : layX[t + 11]? = some (20, 40) := by
  rcases h with rfl | rfl | rfl | rfl | rfl <;> rfl
theorem tr_13 {t : Nat} (h : isT t) : q_R0 t 13 = some (t + 11) := by
  rcases h with rfl | rfl | rfl | rfl | rfl <;> rfl
theorem tl_12 {t : Nat} (h : isT t) : layX[t + 12]? = some (20, 40) := by
  rcases h with rfl | rfl | rfl | rfl | rfl <;> rfl
theorem tr_14 {t : Nat} (h : isT t) : q_R0 t 14 = some (t + 12) := by
  rcases h with rfl | rfl | rfl | rfl | rfl <;> rfl
theorem tl_13 {t : Nat} (h : isT t) : layX[t + 13]? = some (20, 40) := by
  rcases h with rfl | rfl | rfl | rfl | rfl <;> rfl
theorem tr_15 {t : Nat} (h : isT t) : q_R0 t 15 = some (t + 13) := by
  rcases h with rfl | rfl | rfl | rfl | rfl <;> rfl
theorem tl_14 {t : Nat} (h : isT t) : layX[t + 14]? = some (20, 20) := by
  rcases h with rfl | rfl | rfl | rfl | rfl <;> rfl
theorem tr_16 {t : Nat} (h : isT t) : q_R0 t 16 = some (t + 14) := by
  rcases h with rfl | rfl | rfl | rfl | rfl <;> rfl
theorem al_0 {a : Nat} (h : isA a) : layX[a]? = some (0, 0) := by
  rcases h with rfl | rfl <;> rfl
theorem al_1 {a : Nat} (h : isA a) : layX[a + 1]? = some (20, 400) := by
  rcases h with rfl | rfl <;> rfl
theorem ar_8 {a : Nat} (h : isA a) : q_R0 a 8 = some (a + 1) := by
  rcases h with rfl | rfl <;> rfl
theorem al_2 {a : Nat} (h : isA a) : layX[a + 2]? = some (20, 1200) := by
  rcases h with rfl | rfl <;> rfl
theorem ar_9 {a : Nat} (h : isA a) : q_R0 a 9 = some (a + 2) := by
  rcases h with rfl | rfl <;> rfl
theorem al_3 {a : Nat} (h : isA a) : layX[a + 3]? = some (20, 40) := by
  rcases h with rfl | rfl <;> rfl
theorem ar_10 {a : Nat} (h : isA a) : q_R0 a 10 = some (a + 3) := by
  rcases h with rfl | rfl <;> rfl
theorem al_4 {a : Nat} (h : isA a) : layX[a + 4]? = some (20, 40) := by
  rcases h with rfl | rfl <;> rfl
theorem ar_11 {a : Nat} (h : isA a) : q_R0 a 11 = some (a + 4) := by
  rcases h with rfl | rfl <;> rfl
theorem al_5 {a : Nat} (h : isA a) : layX[a + 5]? = some (20, 403) := by
  rcases h with rfl | rfl <;> rfl
theorem ar_12 {a : Nat} (h : isA a) : q_R0 a 12 = some (a + 5) := by
  rcases h with rfl | rfl <;> rfl
theorem al_6 {a : Nat} (h : isA a) : layX[a + 6]? = some (20, 403) := by
  rcases h with rfl | rfl <;> rfl
theorem ar_13 {a : Nat} (h : isA a) : q_R0 a 13 = some (a + 6) := by
  rcases h with rfl | rfl <;> rfl
theorem al_7 {a : Nat} (h : isA a) : layX[a + 7]? = some (20, 403) := by
  rcases h with rfl | rfl <;> rfl
theorem ar_14 {a : Nat} (h : isA a) : q_R0 a 14 = some (a + 7) := by
  rcases h with rfl | rfl <;> rfl
theorem ar_6 {a : Nat} (h : isA a) : q_R0 a 6 = some (akT a) := by
  rcases h with rfl | rfl <;> rfl
theorem ar_7 {a : Nat} (h : isA a) : q_R0 a 7 = some 38 := by
  rcases h with rfl | rfl <;> rfl
theorem wl_0 {r : Nat} (h : isW r) : layX[r]? = some (20, 48) := by
  rcases h with rfl | rfl <;> rfl
def cpI (s : ST) (i j : Nat) (k : Int) : ST := (fun c b => if c = j ∧ 0 ≤ b ∧ b < k then s.1 i b else s.1 c b, s.2)
def cpJ (s : ST) (i j : Nat) (k : Int) : ST := (s.1, fun c b => if c = j ∧ 0 ≤ b ∧ b < k then s.2 i b else s.2 c b)
theorem ra_cpI {s : ST} {i j : Nat} {k : Int} (h : RA s) : RA (cpI s i j k) := by
  intro a b
  show R32 (if a = j ∧ 0 ≤ b ∧ b < k then s.1 i b else s.1 a b)
  split
  · exact h i b
  · exact h a b
theorem ra_cpJ {s : ST} {i j : Nat} {k : Int} (h : RA s) : RA (cpJ s i j k) := h
theorem qs_cpI {la : List (Nat × Nat)} {s : ST} {i j k : Nat} : q_cpI (qs la s) i j 0 0 k = qs la (cpI s i j (k : Int)) := by
  show (_, _) = (_, _)
  congr 1
  funext c x
  show (if c = j ∧ 0 ≤ x ∧ x < 0 + k then Int32.ofInt (s.1 i ((0 + (x - 0) : Nat) : Int)) else Int32.ofInt (s.1 c (x : Int))) = Int32.ofInt (if c = j ∧ (0 : Int) ≤ (x : Int) ∧ (x : Int) < (k : Int) then s.1 i (x : Int) else s.1 c (x : Int))
  by_cases e : c = j ∧ x < k
  · rw [if_pos ⟨e.1, Nat.zero_le _, by omega⟩, if_pos ⟨e.1, by omega, by omega⟩, Nat.zero_add, Nat.sub_zero]
  · rw [if_neg (fun q => e ⟨q.1, by omega⟩), if_neg (fun q => e ⟨q.1, by omega⟩)]
theorem qs_cpJ {la : List (Nat × Nat)} {s : ST} {i j k : Nat} : q_cpJ (qs la s) i j 0 0 k = qs la (cpJ s i j (k : Int)) := by
  show (_, (_, _)) = (_, (_, _))
  congr 2
  funext c x
  show (if c = j ∧ 0 ≤ x ∧ x < 0 + k then s.2 i ((0 + (x - 0) : Nat) : Int) else s.2 c (x : Int)) = (if c = j ∧ (0 : Int) ≤ (x : Int) ∧ (x : Int) < (k : Int) then s.2 i (x : Int) else s.2 c (x : Int))
  by_cases e : c = j ∧ x < k
  · rw [if_pos ⟨e.1, Nat.zero_le _, by omega⟩, if_pos ⟨e.1, by omega, by omega⟩, Nat.zero_add, Nat.sub_zero]
  · rw [if_neg (fun q => e ⟨q.1, by omega⟩), if_neg (fun q => e ⟨q.1, by omega⟩)]
section ZC
variable {M : q_M} {la : List (Nat × Nat)} {s : ST} {pc : Nat} {lv : List (Nat × Value)} {rest : List Value} {Q : q_F}
theorem z_copyI {i j n0 n1 k idx : Nat} {z : Int} (hd : decode M.1.2.1 pc = .ok (.invokestatic idx, 3)) (hl : Cond.methodLink M.1.1.cls idx arraycopyName ∈ q_gt) (h1 : Cond.native arraycopyName ∈ q_gt) (h2 : Cond.static arraycopyName ∈ q_gt) (h3 : Cond.initialized "java/lang/System" ∈ q_gt)
    (hi : la[i]? = some (20, n0)) (hj : la[j]? = some (20, n1)) (hn : (Int32.ofInt z).toInt = (k : Int)) (h4 : k ≤ n0) (h5 : k ≤ n1) (hroom : 1 ≤ M.2.1 ∧ 8 + (nativeFrameWords "java/lang/System" "arraycopy" 5 + 11) ≤ M.2.2.1) (hrest : (rest.map fun v => v.category).sum ≤ 8)
    (kk : q_K M (qs la (cpI s i j (k : Int))) 0 0 (pc + 3) lv rest Q) : q_K M (qs la s) 0 0 pc lv (.int (Int32.ofInt z) :: .int (Int32.ofInt 0) :: .ref j :: .int (Int32.ofInt 0) :: .ref i :: rest) Q :=
  q_copyI (a := 0) (b := 0) hd hl h1 h2 h3 hi hj rfl rfl hn (by omega) (by omega) hroom hrest (q_Keq' qs_cpI kk)
theorem z_copyJ {i j n0 n1 k idx : Nat} {z : Int} (hd : decode M.1.2.1 pc = .ok (.invokestatic idx, 3)) (hl : Cond.methodLink M.1.1.cls idx arraycopyName ∈ q_gt) (h1 : Cond.native arraycopyName ∈ q_gt) (h2 : Cond.static arraycopyName ∈ q_gt) (h3 : Cond.initialized "java/lang/System" ∈ q_gt)
    (hi : la[i]? = some (21, n0)) (hj : la[j]? = some (21, n1)) (hn : (Int32.ofInt z).toInt = (k : Int)) (h4 : k ≤ n0) (h5 : k ≤ n1) (hroom : 1 ≤ M.2.1 ∧ 8 + (nativeFrameWords "java/lang/System" "arraycopy" 5 + 11) ≤ M.2.2.1) (hrest : (rest.map fun v => v.category).sum ≤ 8)
    (kk : q_K M (qs la (cpJ s i j (k : Int))) 0 0 (pc + 3) lv rest Q) : q_K M (qs la s) 0 0 pc lv (.int (Int32.ofInt z) :: .int (Int32.ofInt 0) :: .ref j :: .int (Int32.ofInt 0) :: .ref i :: rest) Q :=
  q_copyJ (a := 0) (b := 0) hd hl h1 h2 h3 hi hj rfl rfl hn (by omega) (by omega) hroom hrest (q_Keq' qs_cpJ kk)
theorem z_mmin {idx : Nat} {x y : Int} (hd : decode M.1.2.1 pc = .ok (.invokestatic idx, 3)) (hl : Cond.methodLink M.1.1.cls idx Lib.Math.min.name ∈ q_gt) (h1 : Cond.static Lib.Math.min.name ∈ q_gt) (h2 : Cond.initialized "java/lang/Math" ∈ q_gt) (h3 : Cond.code Lib.Math.min.name Lib.Math.min.code 2 (some .int) ∈ q_gt)
    (hroom : 1 ≤ M.2.1 ∧ 21 ≤ M.2.2.1) (hrest : (rest.map fun v => v.category).sum ≤ 8) (hk : 0 ≤ M.2.2.2.1 ∧ 0 ≤ M.2.2.2.2) (hx : R32 x) (hy : R32 y) (kk : q_K M (qs la s) 0 0 (pc + 3) lv (.int (Int32.ofInt (zmin x y)) :: rest) Q) : q_K M (qs la s) 0 0 pc lv (.int (Int32.ofInt y) :: .int (Int32.ofInt x) :: rest) Q :=
  q_mmin hd hl h1 h2 h3 hroom hrest hk (q_topI (v := Int32.ofInt (zmin x y)) (by
    unfold zmin
    by_cases e : y < x
    · rw [if_pos e, if_pos ((q_ltz (ofz hy) (ofz hx)).mpr e)]
    · rw [if_neg e, if_neg (fun q => e ((q_ltz (ofz hy) (ofz hx)).mp q))]) kk)
theorem z_box {x : Int32} {z : Int} (hd : decode M.1.2.1 pc = .ok (.aaload, 1)) (hx : x.toInt = z) (hb : 0 ≤ z ∧ z < 3) (kk : q_K M (qs layX s) 0 0 (pc + 1) lv (.ref (boxT z) :: rest) Q) : q_K M (qs layX s) 0 0 pc lv (.int x :: .ref 92 :: rest) Q := by
  refine q_aald (n := 3) (j := z.toNat) (a := boxT z) hd rfl (by omega) (by omega) ?_ kk
  rcases boxT_of hb with rfl | rfl | rfl <;> rfl
end ZC
