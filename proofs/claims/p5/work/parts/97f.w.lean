/-! THE REFERENCE: what a NAME can mean; asksOf -/
/-- bank b' of s' holds the program of bank b of s, its words too -/
def WX (s : ST) (b : Int) (s' : ST) (b' : Int) : Prop := WQ s b s' b' ∧ (∀ i, 0 ≤ i → i < 8 → s'.2 157 (8 * b' + i) = s.2 157 (8 * b + i)) ∧ (∀ i, 0 ≤ i → i < 40 → s'.2 158 (40 * b' + i) = s.2 158 (40 * b + i))
theorem WX.rf {s : ST} {b : Int} : WX s b s b := ⟨.rf, fun _ _ _ => rfl, fun _ _ _ => rfl⟩
theorem WX.tr {s s' s'' : ST} {b b' b'' : Int} (h : WX s b s' b') (k : WX s' b' s'' b'') : WX s b s'' b'' := ⟨h.1.tr k.1, fun i i0 i1 => (k.2.1 i i0 i1).trans (h.2.1 i i0 i1), fun i i0 i1 => (k.2.2 i i0 i1).trans (h.2.2 i i0 i1)⟩
theorem WX.md {fs : List (Nat × Int)} {cs : List Nat} {s s' : ST} {b : Int} (hm : md fs cs s s') (h1 : (fs.all fun q => decide (q.1 ∉ bankCells)) = true) (h2 : (cs.all fun a => decide (a ∉ bankCells)) = true) : WX s b s' b := by
  have k : ∀ a, a ∈ bankCells → ∀ z, s'.1 a z = s.1 a z ∧ s'.2 a z = s.2 a z := fun a ha z => hm a z (fun q => of_decide_eq_true (List.all_eq_true.mp h1 _ q) ha) (fun q => of_decide_eq_true (List.all_eq_true.mp h2 _ q) ha)
  refine ⟨⟨⟨(k 142 (by decide) _).1, (k 143 (by decide) _).1, (k 144 (by decide) _).1⟩, fun i _ _ => (k 145 (by decide) _).1, fun i _ _ => (k 156 (by decide) _).1, fun i _ _ => ⟨⟨(k 146 (by decide) _).1, (k 149 (by decide) _).1, (k 150 (by decide) _).1, (k 151 (by decide) _).1, (k 153 (by decide) _).1, (k 154 (by decide) _).1, (k 155 (by decide) _).1⟩, fun j _ _ => (k 152 (by decide) _).1⟩⟩, fun i _ _ => (k 157 (by decide) _).2, fun i _ _ => (k 158 (by decide) _).2⟩
theorem bank_wx {s s' : ST} {p q : Int} (h : bankEq s p s' q) : WX s p s' q := ⟨bank_wq h, fun i i0 i1 => (h.2.1 i i0 i1).2, fun i i0 i1 => (h.2.2.2 i i0 i1).1.2.2.2.2.2.2.2.2.2⟩
theorem CHD.wx {s s' : ST} {b : Int} (h : CHD s s') (hb : (0 ≤ b ∧ b ≤ 1) ∨ (3 ≤ b ∧ b ≤ 5)) : WX s b s' b := by
  refine ⟨h.wq hb, fun i i0 i1 => ?_, fun i i0 i1 => ?_⟩
  · exact (h.2.2.2.1 _ (by omega)).2
  · exact (h.2.2.2.2.2.1 _ (by omega)).1.2.2.2.2.2
def wd (s : ST) (b a : Int) : Int64 := if 0 ≤ a ∧ a < 40 then s.2 158 (40 * b + a) else if 100 ≤ a ∧ a < 108 then s.2 157 (8 * b + (a - 100)) else 0
def okq (s : ST) (b p q : Int) : Bool := decide (0 ≤ q ∧ q < 40 ∧ p ≤ s.1 150 (40 * b + q) ∧ (s.1 146 (40 * b + q) = 3 ∨ s.1 146 (40 * b + q) = 4 ∧ s.1 152 (3 * (40 * b + q) + 1) ≤ p))
def mst (wd : Int → Int64) (l : List Int) (to : Int) : List Int := if l.any (fun a => decide (wd a = wd to)) = true then l else l ++ [to]
def mlq (ok : Int → Bool) (wd : Int → Int64) : Nat → Int → List Int → List Int
  | 0, _, l => l
  | n + 1, q, l => mlq ok wd n (q - 1) (if ok q = true then mst wd l q else l)
def mld (wd : Int → Int64) : Nat → List Int → List Int
  | 0, l => l
  | n + 1, l => mld wd n (mst wd l (100 + (n : Int)))
def ML (s : ST) (b p : Int) : List Int := mld (wd s b) (s.1 149 (40 * b + p)).toNat (mlq (okq s b p) (wd s b) (p - s.1 145 (8 * b + s.1 149 (40 * b + p))).toNat (p - 1) [])
theorem ML.copy {s s' : ST} {b p : Int} (h : WX s b s' b) (W : WF s b) (p0 : 0 ≤ p) (p1 : p < s.1 142 b) : ML s' b p = ML s b p := by
  have nn := W.nn
  obtain ⟨⟨_, q4, _, q6⟩, q7, q8⟩ := h
  have e1 : wd s' b = wd s b := by
    funext a
    unfold wd
    by_cases c : 0 ≤ a ∧ a < 40
    · rw [if_pos c, if_pos c]; exact q8 a c.1 c.2
    · rw [if_neg c, if_neg c]
      by_cases d : 100 ≤ a ∧ a < 108
      · rw [if_pos d, if_pos d]; exact q7 (a - 100) (by omega) (by omega)
      · rw [if_neg d, if_neg d]
  have e2 : okq s' b p = okq s b p := by
    funext q
    unfold okq
    by_cases c : 0 ≤ q ∧ q < 40
    · obtain ⟨⟨a1, a2, a3, _⟩, a8⟩ := q6 q c.1 c.2
      rw [a1, a3, a8 1 (by omega) (by omega)]
    · rw [decide_eq_false (by omega), decide_eq_false (by omega)]
  have e3 := (q6 p p0 (by omega)).1.2.1
  have ho := W.dO p0 p1
  have e4 := q4 (s.1 149 (40 * b + p)) ho.1.1 (by omega)
  unfold ML
  rw [e1, e2, e3, e4]
def MLS (s : ST) (l : List Int) : Prop := s.1 139 71 = (l.length : Int) ∧ ∀ i : Nat, i < l.length → l[i]? = some (s.1 187 (i : Int))
def VM (s : ST) (b p a : Int) : Prop := ((0 ≤ a ∧ a < p ∧ p ≤ s.1 150 (40 * b + a)) ∧ (s.1 146 (40 * b + a) = 3 ∨ s.1 146 (40 * b + a) = 4 ∧ s.1 152 (3 * (40 * b + a) + 1) ≤ p)) ∨ (100 ≤ a ∧ a - 100 < s.1 149 (40 * b + p))
theorem MLS.keep {fs : List (Nat × Int)} {cs : List Nat} {s s' : ST} {l : List Int} (h : MLS s l) (hm : md fs cs s s') (h1 : decide (((139 : Nat), (71 : Int)) ∉ fs) = true) (h2 : decide (139 ∉ cs) = true) (h3 : (fs.all fun q => decide (q.1 ≠ 187)) = true) (h4 : decide (187 ∉ cs) = true) : MLS s' l := by
  refine ⟨by rw [hm.f 139 71 h1 h2]; exact h.1, fun i hi => ?_⟩
  rw [hm.c 187 h3 h4]; exact h.2 i hi
theorem F_wd {s : ST} {b a : Int} (hb : s.1 139 28 = b) (ha : (0 ≤ a ∧ a < 40) ∨ (100 ≤ a ∧ a < 108)) : F_X11_wordOf s a = wd s b a := by
  subst hb
  unfold F_X11_wordOf wd
  rcases ha with h | h
  · rw [if_pos (by omega), if_pos h]
  · rw [if_neg (by omega), if_neg (by omega), if_pos h, Int.add_sub_assoc]
theorem P_wd {s : ST} {b a : Int} (hb : s.1 139 28 = b) (b01 : 0 ≤ b ∧ b ≤ 1) (ha : (0 ≤ a ∧ a < 40) ∨ (100 ≤ a ∧ a < 108)) : P_X11_wordOf s a := by
  subst hb
  (repeat' (with_reducible first | refine ⟨?_, ?_⟩ | intro _))
  all_goals omega
theorem c_X11_means {s : ST} {b to : Int} {l : List Int} {Q : ST → Prop} (hb : s.1 139 28 = b) (b01 : 0 ≤ b ∧ b ≤ 1) (ms : MLS s l) (hv : ∀ a, a ∈ l → (0 ≤ a ∧ a < 40) ∨ (100 ≤ a ∧ a < 108)) (hl : l.length < 40) {w : Int64} (hw : w = wd s b to) (hQ : ∀ s', md [(139, 71)] [187] s s' → MLS s' (mst (wd s b) l to) → Q s') : C_X11_means s to w Q := by
  subst hw
  have key : ∀ (m j : Nat), l.length - j = m → j ≤ l.length → (∀ i : Nat, i < j → ∀ a, l[i]? = some a → wd s b a ≠ wd s b to) → K_X11_means_3 s to (wd s b to) (j : Int) Q := by
    intro m
    induction m with
    | zero =>
      intro j hm hj hno
      obtain rfl : j = l.length := by omega
      have e71 := ms.1
      refine s_X11_means_3 ?_
      (repeat' (with_reducible first | refine ⟨?_, ?_⟩ | intro _))
      all_goals first | omega | skip
      refine hQ _ (by repeat' (first | exact md.rf | assumption | refine md.ui ?_ ?_ | refine md.uj ?_ ?_ | exact Or.inr (by decide) | exact Or.inl (by decide))) ?_
      have hany : ¬ l.any (fun a => decide (wd s b a = wd s b to)) = true := by
        intro h
        rw [List.any_eq_true] at h
        obtain ⟨a, ha, h⟩ := h
        obtain ⟨i, hi, e⟩ := List.getElem_of_mem ha
        exact hno i hi a (by rw [List.getElem?_eq_getElem hi, e]) (of_decide_eq_true h)
      unfold mst
      rw [if_neg hany]
      refine ⟨by rw [ui_same, List.length_append, e71]; show _ = ((l.length + 1 : Nat) : Int); omega, fun i hi => ?_⟩
      rw [List.length_append] at hi
      have hi : i < l.length + 1 := hi
      rw [ui_cell (by decide), e71]
      by_cases e : i = l.length
      · rw [e, ui_same, List.getElem?_append_right (Nat.le_refl _), Nat.sub_self]; rfl
      · rw [ui_ne (by omega), List.getElem?_append_left (by omega)]
        exact ms.2 i (by omega)
    | succ m ih =>
      intro j hm hj hno
      have e71 := ms.1
      have hjl := ms.2 j (by omega)
      have hmem : s.1 187 (j : Int) ∈ l := List.mem_of_getElem? hjl
      have hva := hv _ hmem
      refine s_X11_means_3 ?_
      refine fun _ _ _ => ⟨fun h => absurd h (by omega), fun _ => ⟨⟨by omega, by omega⟩, P_wd hb b01 hva, ?_⟩⟩
      rw [F_wd hb hva]
      (repeat' (with_reducible first | refine ⟨?_, ?_⟩ | intro _))
      all_goals first | omega | skip
      · rename_i hne
        refine ih (j + 1) (by omega) (by omega) (fun i hi a ha => ?_)
        by_cases e : i = j
        · rw [e, hjl] at ha
          cases ha
          exact hne
        · exact hno i (by omega) a ha
      · rename_i heq
        refine hQ s md.rf ?_
        unfold mst
        rw [if_pos]
        · exact ms
        · rw [List.any_eq_true]
          exact ⟨_, hmem, decide_eq_true heq⟩
  exact s_X11_means fun _ _ => key l.length 0 (by omega) (by omega) (fun i hi => by omega)
theorem dR_ge {s : ST} {b : Int} (W : WF s b) : ∀ (m : Nat) (d : Int), d = (m : Int) → d < s.1 143 b → d ≤ s.1 145 (8 * b + d) := by
  intro m
  induction m with
  | zero => intro d hd h1; have := W.dR (d := d) (by omega) h1; omega
  | succ m ih =>
    intro d hd h1
    have h2 := ih (d - 1) (by omega) (by omega)
    have hr := W.dR (d := d - 1) (by omega) (by omega)
    have he := W.en hr.1 hr.2
    have hs : s.1 145 (8 * b + (d - 1 + 1)) = s.1 150 (40 * b + s.1 145 (8 * b + (d - 1))) + 1 := W.2.1.2.2.2.2.2 (d - 1) (by omega) (by omega)
    rw [show d - 1 + 1 = d by omega] at hs
    omega
theorem mst_len (w : Int → Int64) (l : List Int) (to : Int) : (mst w l to).length ≤ l.length + 1 := by
  unfold mst
  split
  · omega
  · rw [List.length_append]; exact Nat.le_refl _
theorem mst_mem {w : Int → Int64} {l : List Int} {to a : Int} (h : a ∈ mst w l to) : a ∈ l ∨ a = to := by
  unfold mst at h
  split at h
  · exact Or.inl h
  · rw [List.mem_append, List.mem_singleton] at h; exact h
theorem k_mean128 {s0 : ST} {b p : Int} {Q : ST → Prop} (b01 : 0 ≤ b ∧ b ≤ 1) (W : WF s0 b) (h28 : s0.1 139 28 = b) (p0 : 0 ≤ p) (p1 : p < s0.1 142 b) : ∀ (m : Nat) (s : ST) (l : List Int), (m : Int) ≤ s0.1 149 (40 * b + p) → md [(139, 71)] [187] s0 s → MLS s l → (∀ a, a ∈ l → VM s0 b p a) → l.length + m < 40 →
    (∀ s', md [(139, 71)] [187] s0 s' → MLS s' (mld (wd s0 b) m l) → (∀ a, a ∈ mld (wd s0 b) m l → VM s0 b p a) → (mld (wd s0 b) m l).length < 40 → Q s') → K_X11_layMeant_128 s ((m : Int) - 1) Q := by
  have nn := W.nn
  have ho := W.dO p0 p1
  intro m
  induction m with
  | zero =>
    intro s l hm m0 ms hv hlen hQ
    refine s_X11_layMeant_128 ?_
    (repeat' (with_reducible first | refine ⟨?_, ?_⟩ | intro _))
    all_goals first | omega | exact hQ s m0 ms hv (show l.length < 40 by omega)
  | succ m ih =>
    intro s l hm m0 ms hv hlen hQ
    have e28 := m0.f 139 28 (by decide) (by decide)
    have ewd : wd s b = wd s0 b := funext fun a => by
      unfold wd
      rw [m0.cj 158 (by decide) (by decide), m0.cj 157 (by decide) (by decide)]
    refine s_X11_layMeant_128 ?_
    rw [show ((m + 1 : Nat) : Int) - 1 = (m : Int) by omega]
    (repeat' (with_reducible first | refine ⟨?_, ?_⟩ | intro _))
    all_goals first | omega | skip
    refine c_X11_means (b := b) (by omega) b01 ms (fun a ha => ?_) (by omega) ?_ fun s' m' ms' => ?_
    · rcases hv a ha with h | h
      · exact Or.inl (by omega)
      · exact Or.inr (by omega)
    · unfold wd
      rw [if_neg (by omega), if_pos (by omega), e28, h28]
      rw [show (100 : Int) + (m : Int) - 100 = (m : Int) by omega]
    · (repeat' (with_reducible first | refine ⟨?_, ?_⟩ | intro _))
      all_goals first | omega | skip
      rw [ewd] at ms'
      refine ih s' _ (by omega) (m0.tr m') ms' (fun a ha => ?_) (by have := mst_len (wd s0 b) l (100 + (m : Int)); omega) hQ
      rcases mst_mem ha with h | h
      · exact hv a h
      · rw [h]; exact Or.inr ⟨by omega, by omega⟩
theorem k_mean19 {s0 : ST} {b p : Int} {Q : ST → Prop} (b01 : 0 ≤ b ∧ b ≤ 1) (W : WF s0 b) (h28 : s0.1 139 28 = b) (p0 : 0 ≤ p) (p1 : p < s0.1 142 b)
    (hQ : ∀ s', md [(139, 71)] [187] s0 s' → MLS s' (ML s0 b p) → (∀ a, a ∈ ML s0 b p → VM s0 b p a) → (ML s0 b p).length < 40 → Q s') : ∀ (m : Nat) (s : ST) (q : Int) (l : List Int), q - s0.1 145 (8 * b + s0.1 149 (40 * b + p)) + 1 = (m : Int) → q < p → md [(139, 71)] [187] s0 s → MLS s l → (∀ a, a ∈ l → VM s0 b p a) → (l.length : Int) + q + 1 ≤ p → ML s0 b p = mld (wd s0 b) (s0.1 149 (40 * b + p)).toNat (mlq (okq s0 b p) (wd s0 b) m q l) → K_X11_layMeant_19 s p (40 * b + p) q Q := by
  have nn := W.nn
  have ho := W.dO p0 p1
  have hr := W.dR ho.1.1 ho.1.2
  have hge := dR_ge W (s0.1 149 (40 * b + p)).toNat (s0.1 149 (40 * b + p)) (by omega) ho.1.2
  intro m
  induction m with
  | zero =>
    intro s q l hm hq m0 ms hv hlen hML
    have e28 := m0.f 139 28 (by decide) (by decide)
    have e149 := m0.c 149 (by decide) (by decide) (40 * b + p)
    have e145 := m0.c 145 (by decide) (by decide) (8 * b + s0.1 149 (40 * b + p))
    have hML : ML s0 b p = mld (wd s0 b) (s0.1 149 (40 * b + p)).toNat l := hML
    refine s_X11_layMeant_19 ?_
    rw [e28, h28, e149, e145]
    (repeat' (with_reducible first | refine ⟨?_, ?_⟩ | intro _))
    all_goals first | omega | skip
    have := k_mean128 b01 W h28 p0 p1 (Q := Q) (s0.1 149 (40 * b + p)).toNat s l (by omega) m0 ms hv (by omega) (by rw [← hML]; exact hQ)
    rw [show (((s0.1 149 (40 * b + p)).toNat : Nat) : Int) - 1 = s0.1 149 (40 * b + p) - 1 by omega] at this
    exact this
  | succ m ih =>
    intro s q l hm hq m0 ms hv hlen hML
    have e28 := m0.f 139 28 (by decide) (by decide)
    have e149 := m0.c 149 (by decide) (by decide) (40 * b + p)
    have e145 := m0.c 145 (by decide) (by decide) (8 * b + s0.1 149 (40 * b + p))
    have e150 := m0.c 150 (by decide) (by decide) (40 * b + q)
    have e146 := m0.c 146 (by decide) (by decide) (40 * b + q)
    have e152 := m0.c 152 (by decide) (by decide) (3 * (40 * b + q) + 1)
    have ewd : wd s b = wd s0 b := funext fun a => by
      unfold wd
      rw [m0.cj 158 (by decide) (by decide), m0.cj 157 (by decide) (by decide)]
    have skip : okq s0 b p q = false → K_X11_layMeant_19 s p (40 * b + p) (q - 1) Q := fun h => by
      refine ih s (q - 1) l (by omega) (by omega) m0 ms hv (by omega) ?_
      rw [hML]
      show mld _ _ (mlq (okq s0 b p) (wd s0 b) m (q - 1) (if okq s0 b p q = true then mst (wd s0 b) l q else l)) = _
      rw [h, if_neg (by decide)]
    have k101 : okq s0 b p q = true → K_X11_layMeant_101 s p (40 * b + p) q (40 * b + q) Q := fun h => by
      refine s_X11_layMeant_101 ?_
      (repeat' (with_reducible first | refine ⟨?_, ?_⟩ | intro _))
      all_goals first | omega | skip
      refine c_X11_means (b := b) (by omega) b01 ms (fun a ha => ?_) (by omega) ?_ fun s' m' ms' => ?_
      · rcases hv a ha with h | h
        · exact Or.inl (by omega)
        · exact Or.inr (by omega)
      · unfold wd
        rw [if_pos (by omega)]
      · (repeat' (with_reducible first | refine ⟨?_, ?_⟩ | intro _))
        all_goals first | omega | skip
        rw [ewd] at ms'
        have h' := of_decide_eq_true h
        refine ih s' (q - 1) _ (by omega) (by omega) (m0.tr m') ms' (fun a ha => ?_) (by have := mst_len (wd s0 b) l q; omega) ?_
        · rcases mst_mem ha with g | g
          · exact hv a g
          · rw [g]; exact Or.inl ⟨⟨by omega, by omega, h'.2.2.1⟩, h'.2.2.2⟩
        · rw [hML]
          show mld _ _ (mlq (okq s0 b p) (wd s0 b) m (q - 1) (if okq s0 b p q = true then mst (wd s0 b) l q else l)) = _
          rw [h, if_pos rfl]
    refine s_X11_layMeant_19 ?_
    rw [e28, h28, e149, e145, e150, e146, e152]
    (repeat' (with_reducible first | refine ⟨?_, ?_⟩ | intro _))
    all_goals first | omega | skip
    · exact skip (decide_eq_false (by omega))
    · exact k101 (decide_eq_true (by omega))
    · exact skip (decide_eq_false (by omega))
    · exact skip (decide_eq_false (by omega))
    · exact k101 (decide_eq_true (by omega))
theorem c_X11_layMeant {s : ST} {b p : Int} {Q : ST → Prop} (b01 : 0 ≤ b ∧ b ≤ 1) (W : WF s b) (h28 : s.1 139 28 = b) (p0 : 0 ≤ p) (p1 : p < s.1 142 b)
    (hQ : ∀ s', md [(139, 71)] [187] s s' → MLS s' (ML s b p) → (∀ a, a ∈ ML s b p → VM s b p a) → (ML s b p).length < 40 → Q s') : C_X11_layMeant s p Q := by
  have nn := W.nn
  have ho := W.dO p0 p1
  refine s_X11_layMeant ?_
  rw [h28]
  (repeat' (with_reducible first | refine ⟨?_, ?_⟩ | intro _))
  all_goals first | omega | skip
  have m0 : md [(139, 71)] [187] s (ui s 139 71 0) := (by repeat' (first | exact md.rf | assumption | refine md.ui ?_ ?_ | refine md.uj ?_ ?_ | exact Or.inr (by decide) | exact Or.inl (by decide)))
  exact k_mean19 b01 W h28 p0 p1 hQ (p - s.1 145 (8 * b + s.1 149 (40 * b + p))).toNat _ (p - 1) [] (by omega) (by omega) m0 ⟨ui_same, fun i hi => absurd hi (by simp)⟩ (fun a ha => absurd ha (by simp)) (by show ((0 : Nat) : Int) + (p - 1) + 1 ≤ p; omega) rfl
theorem c_X11_asksOf {s : ST} {b : Int} {Q : ST → Int → Prop} (W : WF s b) (hQ : Q s (sm (fun d => s.1 151 (40 * b + s.1 145 (8 * b + d))) 0 (s.1 143 b).toNat)) : C_X11_asksOf s b Q := by
  have hb := W.bb
  have nn := W.nn
  have key : ∀ (m : Nat) (j a : Int), s.1 143 b - j = (m : Int) → 0 ≤ j → a = sm (fun d => s.1 151 (40 * b + s.1 145 (8 * b + d))) 0 j.toNat → (0 ≤ a ∧ a ≤ 1000000 * j) → K_X11_asksOf_4 s b a j Q := by
    intro m
    induction m with
    | zero =>
      intro j a hm j0 ha ha2
      obtain rfl : j = s.1 143 b := by omega
      refine s_X11_asksOf_4 ?_
      (repeat' (with_reducible first | refine ⟨?_, ?_⟩ | intro _))
      all_goals first | omega | (rw [ha]; exact hQ)
    | succ m ih =>
      intro j a hm j0 ha ha2
      have hr := W.dR j0 (show j < s.1 143 b by omega)
      have has := W.as_r hr.1 hr.2
      refine s_X11_asksOf_4 ?_
      (repeat' (with_reducible first | refine ⟨?_, ?_⟩ | intro _))
      all_goals first | omega | skip
      refine ih (j + 1) _ (by omega) (by omega) ?_ (by omega)
      rw [show (j + 1).toNat = j.toNat + 1 by omega]
      show _ = sm (fun d => s.1 151 (40 * b + s.1 145 (8 * b + d))) 0 j.toNat + s.1 151 (40 * b + s.1 145 (8 * b + (0 + ((j.toNat : Nat) : Int))))
      rw [show 0 + ((j.toNat : Nat) : Int) = j by omega, ha]
  exact s_X11_asksOf fun _ _ => key (s.1 143 b).toNat 0 0 (by omega) (by omega) rfl (by omega)
