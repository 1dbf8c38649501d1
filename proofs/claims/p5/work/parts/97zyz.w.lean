/-! READING ALIKE: the ASKINGS listed; only their own cells change -/
def LF (a : Nat) (s s' : ST) : Prop := KX s s' ∧ ∀ c z, (c < a ∨ a + 8 ≤ c) → s'.1 c z = s.1 c z ∧ s'.2 c z = s.2 c z
theorem LF.rf {a : Nat} {s : ST} (h : IX s) : LF a s s := ⟨.rf h, fun _ _ _ => ⟨rfl, rfl⟩⟩
theorem LF.tr {a : Nat} {s s' s'' : ST} (h : LF a s s') (k : LF a s' s'') : LF a s s'' := ⟨h.1.tr k.1, fun c z hc => ⟨(k.2 c z hc).1.trans (h.2 c z hc).1, (k.2 c z hc).2.trans (h.2 c z hc).2⟩⟩
theorem LF_put {a : Nat} (ha : isA a) {s s' : ST} {c : Nat} {x v : Int} (k : LF a s s') (hc : 46 ≤ c) (h0 : (c = 51 ∨ c = 59) → x = 0 → 0 ≤ v ∧ v ≤ 400) (h3 : c = 54 ∨ c = 55 ∨ c = 62 ∨ c = 63 → -1 ≤ v ∧ v < 400) (hcc : a ≤ c ∧ c < a + 8 := by omega) (hb : (c = 51 ∨ c = 59) → x = 3 → v = 0 ∨ v = 1 := by omega) : LF a s (ui s' c x v) :=
  ⟨KX_put k.1 hc h0 h3 hb (fun ht => by omega) (fun e => by omega) (by omega), fun d z hd => ⟨(ui_cell (by omega)).trans (k.2 d z hd).1, (k.2 d z hd).2⟩⟩
section LFS
variable {s : ST} {a : Nat}
theorem f_X0_pileUp {p q u : Int} {Q : ST → Prop} (ha : isA a) (h : IX s) (hQ : ∀ s', LF a s s' → Q s') : C_X0_pileUp a s p q u Q := by
  refine s_X0_pileUp ?_
  simp (disch := omega) only [ui_cell]
  (repeat' (with_reducible first | refine ⟨?_, ?_⟩ | intro _))
  all_goals first | omega | exact hQ _ (.rf h) | skip
  exact hQ _ (LF_put ha (LF_put ha (LF_put ha (LF_put ha (.rf h) (by omega) (fun e => by omega) (fun e => by omega)) (by omega) (fun e => by omega) (fun e => by omega)) (by omega) (fun e => by omega) (fun e => by omega)) (by omega) (fun e => by omega) (fun e => by omega))
theorem f_X0_setPart {p q u : Int} {Q : ST → Prop} (ha : isA a) (h : IX s) (hQ : ∀ s', LF a s s' → Q s') : C_X0_setPart a s p q u Q := by
  refine s_X0_setPart ?_
  (repeat' (with_reducible first | refine ⟨?_, ?_⟩ | intro _))
  all_goals first | omega | exact hQ _ (.rf h) | exact hQ _ (LF_put ha (.rf h) (by omega) (fun e => by omega) (fun e => by omega))
theorem f_X0_listMeant {p q : Int} {Q : ST → Prop} (ha : isA a) (h : IX s) (hQ : ∀ s', LF a s s' → Q s') : C_X0_listMeant a s p q Q := by
  have ak := h.ak ha
  refine s_X0_listMeant fun _ _ _ _ => ⟨P_meantBy _ _ _, P_target _ _ _, fun _ => ⟨fun _ => hQ _ (.rf h), fun hh => ?_⟩, fun _ => f_X0_pileUp ha h hQ⟩
  have hb : 0 ≤ F_X9_targetOf (akT a) s p ∧ F_X9_targetOf (akT a) s p < 40 := by omega
  have := ak.2 _ hb.1 hb.2
  exact ⟨hb, ⟨by unfold R32; omega, by unfold R32; omega⟩, f_X0_setPart ha h hQ⟩
theorem f_X0_listOne {Q : ST → Prop} (ha : isA a) (h : IX s) (h1 : 1 ≤ s.1 a 15) (hQ : ∀ s', LF a s s' → Q s') : C_X0_listOne a s Q := by
  have k173 : ∀ (n : Nat) (s1 : ST) (a1 a2 a3 : Int), a3 + 1 ≤ (n : Int) → -1 ≤ a3 → 0 ≤ a2 ∧ a2 < 40 → LF a s s1 → K_X0_listOne_173 a s1 a1 a2 a3 Q := by
    intro n
    induction n with
    | zero =>
      intro s1 a1 a2 a3 hn h3 h2 k
      refine s_X0_listOne_173 ?_
      (repeat' (with_reducible first | refine ⟨?_, ?_⟩ | intro _))
      all_goals first | omega | exact hQ _ k | exact f_X0_listMeant ha k.1.1 fun s2 k2 => hQ _ (k.tr k2)
    | succ n ih =>
      intro s1 a1 a2 a3 hn h3 h2 k
      refine s_X0_listOne_173 fun _ _ _ _ _ => ⟨fun _ => ⟨h2, fun _ => hQ _ k, fun _ => f_X0_listMeant ha k.1.1 fun s2 k2 => hQ _ (k.tr k2)⟩, fun hp => ⟨P_kid _ _ _ _, f_X0_pileUp ha k.1.1 fun s2 k2 => ⟨by unfold R32; omega, ih _ _ _ _ (by omega) (by omega) h2 (k.tr k2)⟩⟩⟩
  have k155 : ∀ (s1 : ST) (a1 a2 : Int), 0 ≤ a1 ∧ a1 < 400 → 0 ≤ a2 ∧ a2 < 40 → LF a s s1 → K_X0_listOne_155 a s1 a1 a2 Q := by
    intro s1 a1 a2 h1 h2 k
    have har := arity_r (ui s1 (a + 4) a2 a1) (akT a) a2
    refine s_X0_listOne_155 fun _ _ _ _ => ⟨h2, P_arity _ _ _, by unfold R32; omega, ?_⟩
    exact k173 4 _ _ _ _ (by omega) (by omega) h2 (LF_put ha k (by omega) (fun e => by omega) (fun e => by omega))
  have k33 : ∀ (s1 : ST) (t : Int), (t = 0 ∨ t = 1) → (t = 0 → 0 ≤ s1.1 a 0 ∧ s1.1 a 0 < 400) → LF a s s1 → K_X0_listOne_33 a s1 t Q := by
    intro s1 t ht h0 k
    have k1 : LF a s (ui s1 a 1 t) := LF_put ha k (by omega) (fun _ e => by omega) (fun e => by omega)
    have e0 : (ui s1 a 1 t).1 a 0 = s1.1 a 0 := ui_ne (by decide)
    have e1 : (ui s1 a 1 t).1 a 1 = t := ui_same
    refine s_X0_listOne_33 ?_
    rw [e1, e0]
    generalize ui s1 a 1 t = s2 at *
    simp (disch := omega) only [ui_cell, ui_ne]
    (repeat' (with_reducible first | refine ⟨?_, ?_⟩ | intro _))
    all_goals first | omega | exact hQ _ k1 | (unfold P_X0_kindNode R32; omega) | skip
    have h0' := h0 (by omega)
    have k2 : LF a s (ui (ui s2 a 0 (s1.1 a 0 + 1)) (a + 1) (s1.1 a 0) (s2.1 (a + 5) (s2.1 a 15))) := LF_put ha (LF_put ha k1 (by omega) (fun _ _ => by omega) (fun e => by omega)) (by omega) (fun e => by omega) (fun e => by omega)
    refine f_X0_setPart ha k2.1.1 fun s3 k3 => ?_
    have k4 := k2.tr k3
    (repeat' (with_reducible first | refine ⟨?_, ?_⟩ | intro _))
    all_goals first | omega | exact k155 _ _ _ h0' (by omega) k4 | exact k155 _ _ _ h0' (by omega) (LF_put ha k4 (by omega) (fun e => by omega) (fun e => by omega))
  have k0 : LF a s (ui s a 15 (s.1 a 15 - 1)) := LF_put ha (.rf h) (by omega) (fun _ e => by omega) (fun e => by omega)
  have ak := (k0.1.1.ak ha).1.1
  have k28 : K_X0_listOne_28 a (ui s a 15 (s.1 a 15 - 1)) Q := by
    refine s_X0_listOne_28 fun _ _ => ?_
    exact k33 _ 1 (Or.inr rfl) (fun e => by omega) k0
  refine s_X0_listOne fun _ hra => ?_
  have h15 := hra a 15
  unfold R32 at h15
  (repeat' (with_reducible first | refine ⟨?_, ?_⟩ | intro _))
  all_goals first | omega | (unfold R32; omega) | exact k28 | exact k33 _ 0 (Or.inl rfl) (fun _ => by omega) k0
theorem f_X0_list {Q : ST → Prop} (ha : isA a) (h : IX s) (hQ : ∀ s', LF a s s' → Q s') : C_X0_list a s Q := by
  have k50 : ∀ (n : Nat) (s1 : ST) (a1 : Int), 8 - a1 ≤ (n : Int) → 0 ≤ a1 → LF a s s1 → K_X0_list_50 a s1 a1 Q := by
    intro n
    induction n with
    | zero =>
      intro s1 a1 hn h1 k
      refine s_X0_list_50 ?_
      (repeat' (with_reducible first | refine ⟨?_, ?_⟩ | intro _))
      all_goals first | omega | exact hQ _ k | exact P_root _ _ _
    | succ n ih =>
      intro s1 a1 hn h1 k
      have k95 : ∀ (m : Nat) (s2 : ST) (a2 : Int), 401 - a2 ≤ (m : Int) → 0 ≤ a2 → a1 < 8 → LF a s s2 → K_X0_list_95 a s2 a1 a2 Q := by
        intro m
        induction m with
        | zero =>
          intro s2 a2 hm h2 h8 k2
          refine s_X0_list_95 ?_
          (repeat' (with_reducible first | refine ⟨?_, ?_⟩ | intro _))
          all_goals first | omega | exact ih _ _ (by omega) (by omega) k2
        | succ m ihm =>
          intro s2 a2 hm h2 h8 k2
          refine s_X0_list_95 ?_
          (repeat' (with_reducible first | refine ⟨?_, ?_⟩ | intro _))
          all_goals first | omega | exact ih _ _ (by omega) (by omega) k2 | skip
          refine f_X0_listOne ha k2.1.1 (by omega) fun s3 k3 => ?_
          (repeat' (with_reducible first | refine ⟨?_, ?_⟩ | intro _))
          all_goals first | omega | exact ihm _ _ (by omega) (by omega) h8 (k2.tr k3)
      have k0 : LF a s (ui s1 a 15 0) := LF_put ha k (by omega) (fun _ e => by omega) (fun e => by omega)
      refine s_X0_list_50 ?_
      (repeat' (with_reducible first | refine ⟨?_, ?_⟩ | intro _))
      all_goals first | omega | exact hQ _ k | exact P_root _ _ _ | skip
      exact f_X0_pileUp ha k0.1.1 fun s3 k3 => k95 401 _ 0 (by omega) (by omega) (by omega) (k0.tr k3)
  have k22 : ∀ (n : Nat) (s1 : ST) (a1 : Int), 40 - a1 ≤ (n : Int) → 0 ≤ a1 → LF a s s1 → K_X0_list_22 a s1 a1 Q := by
    intro n
    induction n with
    | zero =>
      intro s1 a1 hn h1 k
      refine s_X0_list_22 ?_
      (repeat' (with_reducible first | refine ⟨?_, ?_⟩ | intro _))
      all_goals first | omega | exact k50 8 _ 0 (by omega) (by omega) k
    | succ n ih =>
      intro s1 a1 hn h1 k
      refine s_X0_list_22 ?_
      (repeat' (with_reducible first | refine ⟨?_, ?_⟩ | intro _))
      all_goals first | omega | exact k50 8 _ 0 (by omega) (by omega) k | skip
      exact ih _ _ (by omega) (by omega) (LF_put ha (LF_put ha k (by omega) (fun e => by omega) (fun e => by omega)) (by omega) (fun e => by omega) (fun e => by omega))
  refine s_X0_list fun _ _ => ?_
  exact k22 40 _ 0 (by omega) (by omega) (LF_put ha (LF_put ha (LF_put ha (LF_put ha (.rf h) (by omega) (fun _ _ => by omega) (fun e => by omega)) (by omega) (fun _ e => by omega) (fun e => by omega)) (by omega) (fun _ e => by omega) (fun e => by omega)) (by omega) (fun _ e => by omega) (fun e => by omega))
end LFS
