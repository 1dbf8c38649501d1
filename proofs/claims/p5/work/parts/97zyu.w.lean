/-! READING ALIKE: an expression, side by side -/
def exF : List (Nat × Int) := (18, 1) :: (18, 2) :: xmF
def exC : List Nat := [20, 21, 22, 23, 24, 25, 26, 27, 28, 29, 30, 31, 32, 48, 49, 50]
section EXPR
variable {s0 x0 : ST} {R : Int} {nD : Nat}
theorem sortX_r (x : ST) : -1 ≤ F_X7_sortHere x ∧ F_X7_sortHere x ≤ 16 := by
  unfold F_X7_sortHere
  repeat' split
  all_goals omega
theorem restNeg {y : ST} {Q : ST → Prop} (h : Q y) : C_X7_readRest y (-1) Q := by
  refine s_X7_readRest ?_
  (repeat' (with_reducible first | refine ⟨?_, ?_⟩ | intro _))
  all_goals first | exact h | omega
theorem r_place {x x1 x' m : ST} {b n : Int} {k : Nat} {st : Int → Int} {so : Int} {QR : ST → Prop} (B : BEGR x m b k st n R nD) (cs : CSI s0 x k st n R nD) (h0 : k = 0 → n = R) (hwt : 0 < k → x.1 48 (topOf k st) < ar (x.1 21 (topOf k st))) (hn : n < 40) (hk : k ≤ 20) (hso : F_X7_sortHere x = so) (hso0 : so ≠ -1) (bpf : BPF x x1 (topOf k st) n so k) (hr : RSF x1 x' n) (hno : so ≠ 2 → x'.1 29 n = x1.1 29 n) (hnm : so = 2 → ∃ t, (CLS st (INX x1 k st n) k ++ DLS (x1.1 23 n).toNat).find? (fun a => decide (F_X9_wordOf 18 x1 a = x1.2 46 7)) = some t ∧ x'.1 29 n = t) (rsm : RSM x1 x' n so)
    (hE : ∀ m', RM b m m' → m'.1 143 b = nD → ERR x' m' → QR m')
    (hG : ∀ m', RM b m m' → BEGR x' m' b (k + 1) (stp st k n) (n + 1) R nD → (ar so = 0 → K_X11_readE_7 m' 0 QR) ∧ (0 < ar so → K_X11_readE_7 m' 1 QR)) : K_X11_readE_7 m 1 QR := by
  obtain ⟨_, ⟨c1, c2⟩, ⟨c3, c4⟩, c5, c6, c8⟩ := id cs
  obtain ⟨h1, ⟨h2, h3, h4, h5, h6⟩, h7, h8, h9, h10, h11, h12⟩ := id B
  have hsr := sortX_r x
  have hsa := sort_alike h1
  rw [hso] at hsa hsr
  have hopn : ∀ i : Int, 0 ≤ i → i < k → 0 ≤ m.1 159 i ∧ m.1 159 i < n := fun i i0 i1 => by rw [(h12 i i0 i1).1]; exact (c6.2 i i0 i1).1
  have hw3 : 0 < k → x.1 48 (topOf k st) < 3 := fun h => by have := hwt h; have := ar_r (x.1 21 (topOf k st)); omega
  have hsc : so = 2 → (CLS st (INX x1 k st n) k ++ DLS (x1.1 23 n).toNat).find? (fun a => decide (F_X9_wordOf 18 x1 a = x1.2 46 7)) = FND m b k nD := fun e => scope_alike B cs hwt bpf hn (hso.trans e)
  have hRa := h8.1
  refine r_7b h1.2.2.2.1 ?_
  refine r_begins (x := x) (b := b) (n := n) (k := k) (nD := nD) h2 h3 h4 h5 h6 c2 c6.1 c4 hopn h1.2.1 h1.2.2.1 h1.2.2.2.1 (fun h => ?_) (fun e _ _ hf => ?_) (fun bi hs0 _ _ hbn hby m1 pb => ?_)
  · exfalso; rw [← hsa] at h; clear hnm; omega
  · exfalso
    rw [← hsa] at e
    obtain ⟨t, ht, _⟩ := hnm e
    rw [hsc e, hf] at ht; cases ht
  · rw [← hsa] at hs0 hbn hby pb ⊢
    have e182 : x1.1 18 2 = x.1 18 2 := bpf.1.f 18 2 (by decide) (by decide)
    have ri : RIN x1 m b := by
      obtain ⟨a1, a2, a3, a4, a5⟩ := h1
      refine ⟨⟨a1.keep (bpf.1.f 46 3 (by decide) (by decide)) (funext (bpf.1.c 1 (by decide) (by decide))) rfl rfl (bpf.1.f 46 1 (by decide) (by decide)) rfl, a2, ?_, a4, (bpf.1.f 46 0 (by decide) (by decide)).trans a5⟩, ⟨h2, h3⟩, e182.trans h7, by rw [← h7]; exact c5, hRa.2.2.2.2.2.2.2.2.2⟩
      unfold TKR at *
      rw [bpf.1.f 46 6 (by decide) (by decide), bpf.1.f 46 4 (by decide) (by decide), bpf.1.f 46 5 (by decide) (by decide), bpf.1.f 46 9 (by decide) (by decide), bpf.1.fj 46 7 (by decide) (by decide)]; exact a3
    have hbi0 : so = 2 → ∃ t, FND m b k nD = some t ∧ bi = (if t < 40 then t else t + 60) ∧ x'.1 29 n = t := fun e => by
      obtain ⟨t, ht, e29⟩ := hnm e
      obtain ⟨t', ht', hb⟩ := hby e
      rw [hsc e, ht'] at ht
      have et := Option.some.inj ht
      exact ⟨t', ht', hb, by rw [et]; exact e29⟩
    refine rsm m m1 b bi _ ri pb fun m' p1 e158 hd => ?_
    have hbi : so = 2 → m'.1 139 4 = 0 → (∃ i : Int, (0 ≤ i ∧ i < (k : Int)) ∧ bi = m.1 159 i ∧ (m.1 146 (40 * b + m.1 159 i) = 3 ∨ m.1 146 (40 * b + m.1 159 i) = 4 ∧ m.1 160 i = 1)) ∨ (100 ≤ bi ∧ bi < 100 + (nD : Int)) := fun e _ => by
      obtain ⟨t, ht, hb, _⟩ := hbi0 e
      have := List.mem_of_find?_eq_some ht
      rw [List.mem_append] at this
      rcases this with hm | hm
      · obtain ⟨i, hi, hin, rfl⟩ := mem_CLS k hm
        have := hopn i hi.1 hi.2
        refine Or.inl ⟨i, hi, ?_, of_decide_eq_true hin⟩
        show bi = m.1 159 i
        rw [hb, if_pos (by omega)]
      · have := mem_DLS nD hm
        right
        rw [hb, if_neg (by omega)]; omega
    refine e_bp239 (m := (k : Int)) h8 h2 h4 h6 (fun e => h0 (by omega)) (fun e => ?_) (by omega) (by omega) (by omega) hbn hbi p1 fun v bpo => ?_
    · have hw := hwt (by omega)
      rcases topOf_r c6 with ⟨_, t⟩ | ⟨k0, t, tr, _⟩
      · omega
      · have s12 := (h12 ((k : Int) - 1) (by omega) (by omega))
        rw [if_pos (by omega), ← t] at s12
        have t46 := (h9 (topOf k st) tr.1 tr.2).1
        show m.1 160 ((k : Int) - 1) < ar (m.1 146 (40 * b + m.1 159 ((k : Int) - 1)))
        rw [s12.1, ← t46]; omega
    · intro hv
      obtain ⟨o1, o2, o3, o4, o5⟩ := bpo
      have mG : md [(139, 32)] [159, 160] m' (ui (ui (ui m' 159 k n) 160 k 0) 139 32 ((k : Int) + 1)) := (by repeat' (first | exact md.rf | assumption | refine md.ui ?_ ?_ | refine md.uj ?_ ?_ | exact Or.inr (by decide) | exact Or.inl (by decide)))
      have e4 := mG.f 139 4 (by decide) (by decide)
      have e5 := mG.f 139 5 (by decide) (by decide)
      rcases hd with er | ⟨ok, e2, hw⟩
      · have he : (ui (ui (ui m' 159 k n) 160 k 0) 139 32 ((k : Int) + 1)).1 139 4 ≠ 0 := by rw [e4]; exact fun h => er.1 (er.2.1.symm.trans h)
        exact r_7e he (hE _ o1 o3 ⟨er.1, e4.trans er.2.1, e5.trans er.2.2⟩)
      · obtain ⟨rp, g32, g42, g60, v0, v1⟩ := o5 (e4.trans ok.2.2.2.1)
        have b7 := bpf.2.2.2.1.2.2.2.1
        have B2 := push_m (s9 := ui (ui (ui m' 159 k n) 160 k 0) 139 32 ((k : Int) + 1)) B cs hn hk hw3 bpf hr p1 e158 ok e2 hw (fun e => by
          obtain ⟨t, ht, hb, e29⟩ := hbi0 e
          rw [e29, hb]
          unfold TG
          by_cases c : t < 40
          · rw [if_pos c]; exact Or.inl ⟨c, rfl⟩
          · rw [if_neg c]; exact Or.inr ⟨by omega, rfl⟩) (fun e => (hno e).trans b7) rfl rp
        obtain ⟨g0, g1⟩ := hG _ o1 B2
        have e46 : (ui (ui (ui m' 159 k n) 160 k 0) 139 32 ((k : Int) + 1)).1 146 (40 * b + (ui (ui (ui m' 159 k n) 160 k 0) 139 32 ((k : Int) + 1)).1 159 k) = so := by
          rw [mG.c 146 (by decide) (by decide), show (ui (ui (ui m' 159 k n) 160 k 0) 139 32 ((k : Int) + 1)).1 159 k = n by rw [ui_cell (by decide), ui_cell (by decide), ui_same]]
          exact p1.2.2.2.2.1.2.1
        rw [e46] at v0 v1
        rcases hv with rfl | rfl
        · exact g0 (v0 rfl)
        · exact g1 (v1 rfl)
end EXPR
