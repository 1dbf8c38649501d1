/-! ONE CALL ON TWO NEW OBJECTS. By program (wip/wp/gen_p1.py). -/
def x0 : ST := (fun a b => (zI6 a b.toNat).toInt, fun a b => zJ1 a b.toNat)
theorem qs_of (la : List (Nat × Nat)) (I : Nat → Nat → Int32) (J : Nat → Nat → Int64) : qs la (fun a b => (I a b.toNat).toInt, fun a b => J a b.toNat) = (I, J, q_R0, la) := by
  refine Prod.ext ?_ (Prod.ext ?_ rfl)
  · funext i k
    show Int32.ofInt ((I i ((k : Int)).toNat).toInt) = I i k
    rw [Int.toNat_natCast, Int32.ofInt_toInt]
  · funext i k
    show J i ((k : Int)).toNat = J i k
    rw [Int.toNat_natCast]
theorem qs_x0 (la : List (Nat × Nat)) : qs la x0 = (zI6, zJ1, q_R0, la) := qs_of la zI6 zJ1
theorem ra_x0 : RA x0 := fun _ _ => zr _
theorem jn_x0 : jn x0 x0 = x0 := by
  refine Prod.ext ?_ ?_
  · funext a b; show (if 139 ≤ a then x0.1 a b else x0.1 a b) = x0.1 a b; split <;> rfl
  · funext a b; show (if 139 ≤ a then x0.2 a b else x0.2 a b) = x0.2 a b; split <;> rfl
theorem fr_i {M : q_M} {la : List (Nat × Nat)} {args : List Value} {g : Int} {Q : ST → Int → Prop} (h : q_met M (zI6, zJ1, q_R0, la) args (fun s r => (∃ I J, s = (I, J, q_R0, la)) ∧ ∃ v : Int32, r = some (.int v) ∧ v.toInt = g)) (hQ : ∀ s, Q s g) : q_met M (qs la x0) args (PI la Q) := by
  rw [qs_x0]
  refine q_met.mono h ?_
  rintro _ _ ⟨⟨I, J, rfl⟩, v, rfl, hv⟩
  exact ⟨_, v.toInt, (qs_of la I J).symm, fun _ _ => zr _, zr _, by rw [Int32.ofInt_toInt], by rw [hv]; exact hQ _⟩
theorem fr_b {M : q_M} {la : List (Nat × Nat)} {args : List Value} {g : Int} {Q : ST → Int → Prop} (h : q_met M (zI6, zJ1, q_R0, la) args (fun s r => (∃ I J, s = (I, J, q_R0, la)) ∧ ∃ v : Int32, r = some (.int v) ∧ v.toInt = g)) (hg : g = 0 ∨ g = 1) (hQ : ∀ s, Q s g) : q_met M (qs la x0) args (PB la Q) := by
  rw [qs_x0]
  refine q_met.mono h ?_
  rintro _ _ ⟨⟨I, J, rfl⟩, v, rfl, hv⟩
  exact ⟨_, v.toInt, (qs_of la I J).symm, fun _ _ => zr _, by rw [hv]; exact hg, by rw [Int32.ofInt_toInt], by rw [hv]; exact hQ _⟩
theorem fr_l {M : q_M} {la : List (Nat × Nat)} {args : List Value} {g : Int} {Q : ST → Int64 → Prop} (h : q_met M (zI6, zJ1, q_R0, la) args (fun s r => (∃ I J, s = (I, J, q_R0, la)) ∧ ∃ v : Int64, r = some (.long v) ∧ v.toInt = g)) (hQ : ∀ s v, v.toInt = g → Q s v) : q_met M (qs la x0) args (PL la Q) := by
  rw [qs_x0]
  refine q_met.mono h ?_
  rintro _ _ ⟨⟨I, J, rfl⟩, v, rfl, hv⟩
  exact ⟨_, v, (qs_of la I J).symm, fun _ _ => zr _, rfl, hQ _ _ hv⟩
theorem x0_t : x0.1 0 1 = 0 := by decide +kernel
theorem x0_t' : x0.1 139 2 = 0 := by decide +kernel
theorem x0_b : x0.1 139 28 = 0 := by decide +kernel
theorem x0_n : x0.1 2 1 = 0 := by decide +kernel
theorem x0_n' : x0.1 142 0 = 0 := by decide +kernel
theorem l1_0 : lshl 1 0 - 1 = 0 := by decide +kernel
theorem p1_0 (xs : Nat → Int32) (i : Int) (N : ST → ST → Prop) (hN : ∀ x m, N x m) : lw0 xs x0 x0 i N := by
  unfold lw0
  refine c_X10_feed (by rw [x0_t]; omega) (by rw [x0_t]; omega) (fun _ => ?_) (fun h => absurd h (by rw [x0_t]; omega))
  refine c_X11_feed (by rw [x0_t']; omega) (by rw [x0_t']; omega) (fun _ s' _ _ _ _ => ?_) (fun h => absurd h (by rw [x0_t']; omega))
  rw [x0_t, x0_t']
  exact ⟨rfl, hN _ _⟩
theorem p1_1 (xs : Nat → Int32) (i : Int) (N : ST → ST → Prop) (hN : ∀ x m, N x m) : lw1 xs x0 x0 i N := by
  unfold lw1
  exact ⟨fun _ _ => fr_i (frX_end _) (fun _ => ⟨fun _ _ => fr_i (frM_end _) (fun _ => ⟨rfl, hN _ _⟩), trivial⟩), trivial⟩
theorem p1_2 (xs : Nat → Int32) (i : Int) (N : ST → ST → Prop) (hN : ∀ x m, N x m) : lw2 xs x0 x0 i N := by
  unfold lw2
  exact ⟨fun _  => fr_i (frX_program) (fun _ => ⟨fun _  => fr_i (frM_program) (fun _ => ⟨rfl, hN _ _⟩), trivial⟩), trivial⟩
theorem p1_3 (xs : Nat → Int32) (i : Int) (N : ST → ST → Prop) (hN : ∀ x m, N x m) : lw3 xs x0 x0 i N := by
  unfold lw3
  exact ⟨fun _ _ => fr_i (frX_fault _) (fun _ => ⟨fun _ _ => fr_i (frM_fault _) (fun _ => ⟨rfl, hN _ _⟩), trivial⟩), trivial⟩
theorem p1_4 (xs : Nat → Int32) (i : Int) (N : ST → ST → Prop) (hN : ∀ x m, N x m) : lw4 xs x0 x0 i N := by
  unfold lw4
  exact ⟨fun _ _ _ => fr_i (frX_place _ _) (fun _ => ⟨fun _ _ _ => fr_i (frM_place _ _) (fun _ => ⟨rfl, hN _ _⟩), trivial⟩), trivial⟩
theorem p1_5 (xs : Nat → Int32) (i : Int) (N : ST → ST → Prop) (hN : ∀ x m, N x m) : lw5 xs x0 x0 i N := by
  unfold lw5
  exact ⟨fun _  => fr_i (frX_fits) (fun _ => ⟨fun _  => fr_i (frM_fits) (fun _ => ⟨rfl, hN _ _⟩), trivial⟩), trivial⟩
theorem p1_6 (xs : Nat → Int32) (i : Int) (N : ST → ST → Prop) (hN : ∀ x m, N x m) : lw6 xs x0 x0 i N := by
  unfold lw6
  exact ⟨fun _ _ _ => fr_i (frX_kind _ _) (fun _ => ⟨fun _ _ _ => fr_i (frM_kind _ _) (fun _ => ⟨rfl, hN _ _⟩), trivial⟩), trivial⟩
theorem p1_7 (xs : Nat → Int32) (i : Int) (N : ST → ST → Prop) (hN : ∀ x m, N x m) : lw7 xs x0 x0 i N := by
  unfold lw7
  generalize ((lshl (Int64.ofInt (sx xs (i + 1))) 32) ||| ((Int64.ofInt (sx xs (i + 2))) &&& 4294967295)) = p
  by_cases hp : p = 0
  · subst hp
    exact ⟨fun _ => fr_i frX_clashes0 (fun _ => ⟨fun _ => fr_i frM_clashes0 (fun _ => ⟨rfl, hN _ _⟩), trivial⟩), trivial⟩
  · refine s_X10_clashes fun _ => ⟨fun h => absurd h ?_, fun _ => ?_⟩
    · rw [x0_n, l1_0]
      intro h
      apply hp
      have : p &&& (0 ^^^ (-1) : Int64) = p := by
        rw [show (0 ^^^ (-1) : Int64) = -1 by decide]
        exact Int64.and_neg_one
      rw [← this]; exact h
    · refine s_X11_clashes fun _ => ⟨fun _ => ⟨rfl, hN _ _⟩, fun h1 => ⟨⟨by rw [x0_b]; omega, by rw [x0_b]; omega⟩, fun h => absurd h ?_, fun _ => ⟨rfl, hN _ _⟩⟩⟩
      rw [x0_b, x0_n', l1_0]
      intro h
      apply h
      rw [Int64.lt_iff_toInt_lt] at *
      have : p.toInt ≠ 0 := fun e => hp (Int64.toInt_inj.mp e)
      have e0 : (0 : Int64).toInt = 0 := rfl
      omega
theorem p1_8 (xs : Nat → Int32) (i : Int) (N : ST → ST → Prop) (hN : ∀ x m, N x m) : lw8 xs x0 x0 i N := by
  unfold lw8
  exact ⟨fun _  => fr_l (frX_core) (fun _ v hv => ⟨fun _  => fr_l (frM_core) (fun _ v2 hv2 => ⟨Int64.toInt_inj.mp (hv.trans hv2.symm), hN _ _⟩), trivial⟩), trivial⟩
theorem p1_9 (xs : Nat → Int32) (i : Int) (N : ST → ST → Prop) (hN : ∀ x m, N x m) : lw9 xs x0 x0 i N := by
  unfold lw9
  exact ⟨fun _ _ _ => fr_i (frX_meets _ _) (fun _ => ⟨fun _ _ _ => fr_i (frM_meets _ _) (fun _ => ⟨rfl, hN _ _⟩), trivial⟩), trivial⟩
theorem p1_10 (xs : Nat → Int32) (i : Int) (N : ST → ST → Prop) (hN : ∀ x m, N x m) : lw10 xs x0 x0 i N := by
  unfold lw10
  exact ⟨fun _  => fr_i (frX_cores) (fun _ => ⟨fun _  => fr_i (frM_cores) (fun _ => ⟨rfl, hN _ _⟩), trivial⟩), trivial⟩
theorem p1_11 (xs : Nat → Int32) (i : Int) (N : ST → ST → Prop) (hN : ∀ x m, N x m) : lw11 xs x0 x0 i N := by
  unfold lw11
  exact ⟨fun _ _ => fr_l (frX_coreAt _) (fun _ v hv => ⟨fun _ _ => fr_l (frM_coreAt _) (fun _ v2 hv2 => ⟨Int64.toInt_inj.mp (hv.trans hv2.symm), hN _ _⟩), trivial⟩), trivial⟩
theorem p1_12 (xs : Nat → Int32) (i : Int) (N : ST → ST → Prop) (hN : ∀ x m, N x m) : lw12 xs x0 x0 i N := by
  unfold lw12
  exact ⟨fun _ _ _ => fr_i (frX_trust _ _) (fun _ => ⟨fun _ _ _ => fr_i (frM_trust _ _) (fun _ => ⟨rfl, hN _ _⟩), trivial⟩), trivial⟩
theorem p1_13 (xs : Nat → Int32) (i : Int) (N : ST → ST → Prop) (hN : ∀ x m, N x m) : lw13 xs x0 x0 i N := by
  unfold lw13
  exact ⟨fun _  => fr_l (frX_cheapest) (fun _ v hv => ⟨fun _  => fr_l (frM_cheapest) (fun _ v2 hv2 => ⟨Int64.toInt_inj.mp (hv.trans hv2.symm), hN _ _⟩), trivial⟩), trivial⟩
theorem p1_14 (xs : Nat → Int32) (i : Int) (N : ST → ST → Prop) (hN : ∀ x m, N x m) : lw14 xs x0 x0 i N := by
  unfold lw14
  exact ⟨fun _  => fr_i (frX_mends) (fun _ => ⟨fun _  => fr_i (frM_mends) (fun _ => ⟨rfl, hN _ _⟩), trivial⟩), trivial⟩
theorem p1_15 (xs : Nat → Int32) (i : Int) (N : ST → ST → Prop) (hN : ∀ x m, N x m) : lw15 xs x0 x0 i N := by
  unfold lw15
  exact ⟨fun _ _ => fr_l (frX_mendAt _) (fun _ v hv => ⟨fun _ _ => fr_l (frM_mendAt _) (fun _ v2 hv2 => ⟨Int64.toInt_inj.mp (hv.trans hv2.symm), hN _ _⟩), trivial⟩), trivial⟩
theorem p1_16 (xs : Nat → Int32) (i : Int) (N : ST → ST → Prop) (hN : ∀ x m, N x m) : lw16 xs x0 x0 i N := by
  unfold lw16
  exact ⟨fun _  => fr_i (frX_hints) (fun _ => ⟨fun _  => fr_i (frM_hints) (fun _ => ⟨rfl, hN _ _⟩), trivial⟩), trivial⟩
theorem p1_17 (xs : Nat → Int32) (i : Int) (N : ST → ST → Prop) (hN : ∀ x m, N x m) : lw17 xs x0 x0 i N := by
  unfold lw17
  exact ⟨fun _ _ _ => fr_i (frX_hint _ _) (fun _ => ⟨fun _ _ _ => fr_i (frM_hint _ _) (fun _ => ⟨rfl, hN _ _⟩), trivial⟩), trivial⟩
theorem p1_18 (xs : Nat → Int32) (i : Int) (N : ST → ST → Prop) (hN : ∀ x m, N x m) : lw18 xs x0 x0 i N := by
  unfold lw18
  exact ⟨fun _ _ => fr_i (frX_apply _) (fun _ => ⟨fun _ _ => fr_i (frM_apply _) (fun _ => ⟨rfl, hN _ _⟩), trivial⟩), trivial⟩
theorem p1_19 (xs : Nat → Int32) (i : Int) (N : ST → ST → Prop) (hN : ∀ x m, N x m) : lw19 xs x0 x0 i N := by
  unfold lw19
  exact ⟨fun _ _ => fr_i (frX_run _) (fun _ => ⟨fun _ _ => fr_i (frM_run _) (fun _ => ⟨rfl, hN _ _⟩), trivial⟩), trivial⟩
theorem p1_20 (xs : Nat → Int32) (i : Int) (N : ST → ST → Prop) (hN : ∀ x m, N x m) : lw20 xs x0 x0 i N := by
  unfold lw20
  exact ⟨fun _ _ => fr_i (frX_right _) (fun _ => ⟨fun _ _ => fr_i (frM_right _) (fun _ => ⟨rfl, hN _ _⟩), trivial⟩), trivial⟩
theorem p1_21 (xs : Nat → Int32) (i : Int) (N : ST → ST → Prop) (hN : ∀ x m, N x m) : lw21 xs x0 x0 i N := by
  unfold lw21
  exact ⟨fun _ _ => fr_b (frX_untell _) (Or.inl rfl) (fun _ => ⟨fun _ _ => fr_b (frM_untell _) (Or.inl rfl) (fun _ => ⟨rfl, hN _ _⟩), trivial⟩), trivial⟩
theorem p1_22 (xs : Nat → Int32) (i : Int) (N : ST → ST → Prop) (hN : ∀ x m, N x m) : lw22 xs x0 x0 i N := by
  unfold lw22
  exact ⟨fun _ _ => fr_i (frX_later _) (fun _ => ⟨fun _ _ => fr_i (frM_later _) (fun _ => ⟨rfl, hN _ _⟩), trivial⟩), trivial⟩
theorem p1_23 (xs : Nat → Int32) (i : Int) (N : ST → ST → Prop) (hN : ∀ x m, N x m) : lw23 xs x0 x0 i N := by
  unfold lw23
  exact ⟨fun _ _ => fr_i (frX_left _) (fun _ => ⟨fun _ _ => fr_i (frM_left _) (fun _ => ⟨rfl, hN _ _⟩), trivial⟩), trivial⟩
theorem p1_24 (xs : Nat → Int32) (i : Int) (N : ST → ST → Prop) (hN : ∀ x m, N x m) : lw24 xs x0 x0 i N := by
  unfold lw24
  exact ⟨fun _ _ => fr_l (frX_sure _) (fun _ v hv => ⟨fun _ _ => fr_l (frM_sure _) (fun _ v2 hv2 => ⟨Int64.toInt_inj.mp (hv.trans hv2.symm), hN _ _⟩), trivial⟩), trivial⟩
theorem p1_25 (xs : Nat → Int32) (i : Int) (N : ST → ST → Prop) (hN : ∀ x m, N x m) : lw25 xs x0 x0 i N := by
  unfold lw25
  refine c_X10_image (fun s' h0 h1 _ _ _ _ => ?_) (fun h => ?_)
  · refine c_X11_image (by rw [x0_b]; omega) (by rw [x0_b]; omega) (fun s2 _ _ _ _ _ _ _ _ _ => ?_) (fun h => absurd h (by omega))
    rw [x0_b, x0_n, x0_n']
    exact ⟨rfl, hN _ _⟩
  · refine c_X11_image (by rw [x0_b]; omega) (by rw [x0_b]; omega) (fun s2 h0 h1 _ _ _ _ _ _ _ => absurd h (by omega)) (fun _ => ⟨rfl, hN _ _⟩)
theorem p1_26 (xs : Nat → Int32) (i : Int) (N : ST → ST → Prop) (hN : ∀ x m, N x m) : lw26 xs x0 x0 i N := by
  unfold lw26
  exact ⟨fun _ _ => fr_i (frX_back _) (fun _ => ⟨fun _ _ => fr_i (frM_back _) (fun _ => ⟨rfl, hN _ _⟩), trivial⟩), trivial⟩
theorem p1_27 (xs : Nat → Int32) (i : Int) (N : ST → ST → Prop) (hN : ∀ x m, N x m) : lw27 xs x0 x0 i N := by
  unfold lw27
  exact ⟨fun _ _ => fr_i (frX_about _) (fun _ => ⟨fun _ _ => fr_i (frM_about _) (fun _ => ⟨rfl, hN _ _⟩), trivial⟩), trivial⟩
theorem p1_step (xs : Nat → Int32) (i : Int) (N : ST → ST → Prop) (hN : ∀ x m, N x m) : lawStep xs x0 x0 i N := by
  unfold lawStep
  refine ⟨fun _ => p1_0 xs i N hN, fun _ => p1_1 xs i N hN, fun _ => p1_2 xs i N hN, fun _ => p1_3 xs i N hN, fun _ => p1_4 xs i N hN, fun _ => p1_5 xs i N hN, fun _ => p1_6 xs i N hN, fun _ => p1_7 xs i N hN, fun _ => p1_8 xs i N hN, fun _ => p1_9 xs i N hN, fun _ => p1_10 xs i N hN, fun _ => p1_11 xs i N hN, fun _ => p1_12 xs i N hN, fun _ => p1_13 xs i N hN, fun _ => p1_14 xs i N hN, fun _ => p1_15 xs i N hN, fun _ => p1_16 xs i N hN, fun _ => p1_17 xs i N hN, fun _ => p1_18 xs i N hN, fun _ => p1_19 xs i N hN, fun _ => p1_20 xs i N hN, fun _ => p1_21 xs i N hN, fun _ => p1_22 xs i N hN, fun _ => p1_23 xs i N hN, fun _ => p1_24 xs i N hN, fun _ => p1_25 xs i N hN, fun _ => p1_26 xs i N hN, fun _ => p1_27 xs i N hN, fun _ => hN _ _⟩
theorem law_one {b L : Nat} {xs : Nat → Int32} (hL : L ≤ 6) : q_K mL (q_z (fun _ _ => 0) (fun _ _ => 0) (fun _ _ => none) 0) 0 0 0 [(0, .ref 1002)] [] (q_FL b L xs) := by
  refine law_entry ?_
  have := law_loop (b := b) (L := L) (xs := xs) (kc := law_kc) (ks := law_ks) ⟨rfl, rfl⟩ (by omega) (fun k x m => k = 0 → x = x0 ∧ m = x0) (fun k x m hI _ _ hk => by
    obtain rfl : k = 0 := by omega
    obtain ⟨rfl, rfl⟩ := hI rfl
    exact p1_step xs _ _ (fun _ _ h => absurd h (by omega))) L 0 x0 x0 (by omega) (by omega) ra_x0 ra_x0 (fun _ => ⟨rfl, rfl⟩)
  unfold KL at this
  rw [jn_x0, qs_x0] at this
  exact this
