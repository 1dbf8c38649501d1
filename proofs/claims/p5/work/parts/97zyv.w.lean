/-! READING ALIKE: an expression, side by side (2) -/
section EXPR2
variable {s0 x0 : ST} {R : Int} {nD : Nat}
theorem m_expr {Q : ST → Prop} (cs0 : CSI s0 x0 0 (fun _ => 0) R R nD)
    (hfin : ∀ x' st n, md exF exC x0 x' → CSI s0 x' 0 st n R nD → R < n → (∀ m0 b QR, BEGR x0 m0 b 0 (fun _ => 0) R R nD → (∀ m, RM b m0 m → BEGR x' m b 0 st n R nD → ben m b R = n - 1 → QR m) → K_X11_readE_7 m0 1 QR) → Q x')
    (herr : ∀ x', md exF exC x0 x' → KZ s0 x' → PT x' → x'.1 46 0 ≠ 0 → (∀ m0 b QR, BEGR x0 m0 b 0 (fun _ => 0) R R nD → (∀ m, RM b m0 m → m.1 143 b = nD → ERR x' m → QR m) → K_X11_readE_7 m0 1 QR) → Q x') : C_X7_readExpression x0 Q := by
  have k57 : ∀ s (a3 : Int), Q s → (0 ≤ a3 ∧ a3 ≤ 40) → K_X7_readExpression_57 s a3 (-1) Q := by
    intro s a3 hq ha
    have k17 : K_X7_readExpression_17 s (-1) 0 (a3 + 1) Q := by
      refine s_X7_readExpression_17 ?_
      (repeat' (with_reducible first | refine ⟨?_, ?_⟩ | intro _))
      all_goals first | exact hq | omega
    refine s_X7_readExpression_57 ?_
    (repeat' (with_reducible first | refine ⟨?_, ?_⟩ | intro _))
    all_goals first | omega | exact k17
  have k17 : ∀ (j : Nat) (x : ST) (k : Nat) (st : Int → Int) (n a3 : Int), 41 - a3 ≤ (j : Int) → CSI s0 x k st n R nD → SRT x k st → (0 < k → x.1 48 (topOf k st) < ar (x.1 21 (topOf k st))) → (k = 0 → n = R) → (0 ≤ a3 ∧ a3 + R ≤ n) → md exF exC x0 x → (∀ m0 b QR, BEGR x0 m0 b 0 (fun _ => 0) R R nD → (∀ m, RM b m0 m → BEGR x m b k st n R nD → K_X11_readE_7 m 1 QR) → K_X11_readE_7 m0 1 QR) → K_X7_readExpression_17 x (topOf k st) 1 a3 Q := by
    intro j
    induction j with
    | zero => intro x k st n a3 hj cs sr hwt h0 ha mx adv; have := cs.2.1.2; have := cs.2.2.2.2.2.1; omega
    | succ j ih =>
      intro x k st n a3 hj cs sr hwt h0 ha mx adv
      obtain ⟨⟨kz, px, f0⟩, ⟨c1, c2⟩, ⟨c3, c4⟩, c5, c6, c8⟩ := id cs
      have hR0 := c8.1
      have hw3 : 0 < k → x.1 48 (topOf k st) < 3 := fun h => by have := hwt h; have := ar_r (x.1 21 (topOf k st)); omega
      have tr := topOf_r c6
      have hk21 := c6.1
      have t0E : (if topOf k st = -1 then (0 : Int) else x.1 49 (topOf k st) + 1) = k := by
        rcases tr with ⟨t, t'⟩ | ⟨k0, _, t1, t2, _⟩
        · rw [if_pos t]; omega
        · rw [if_neg (by omega)]; omega
      have hp : topOf k st = -1 ∨ ((0 ≤ topOf k st ∧ topOf k st < n) ∧ (0 ≤ x.1 48 (topOf k st) ∧ x.1 48 (topOf k st) < 3) ∧ (0 ≤ x.1 49 (topOf k st) ∧ x.1 49 (topOf k st) ≤ 20)) := by
        rcases tr with ⟨t, t'⟩ | ⟨k0, _, t1, t2, t3⟩
        · exact Or.inl t
        · have := hw3 k0; exact Or.inr ⟨t1, ⟨t3, this⟩, by omega⟩
      have hsr := sortX_r x
      have beg : C_X7_beginPlace x (topOf k st) (fun s1 v1 => C_X7_readRest s1 v1 (fun s2 => (¬ s2.1 46 0 = 0 → K_X7_readExpression_57 s2 a3 (-1) Q) ∧ (s2.1 46 0 = 0 → C_X7_nextWaiting s2 v1 (fun s3 v3 => K_X7_readExpression_57 s3 a3 v3 Q)))) := by
        refine e_beginPlace kz c1 c2 (by omega) hp (fun hbad => ?_) (fun hso h20 hn40 x1 kz1 bpf => ?_)
        · -- refused
          refine restNeg ⟨fun _ => k57 _ a3 ?_ (by omega), fun h => ?_⟩
          · refine herr _ (mx.tr (FIS_md.mono (by decide) (by decide))) (kz.m46 FIS_md (by decide)) px (by rw [FIS_0]; split <;> omega) fun m0 b QR b0 hm => adv m0 b QR b0 fun m rm B => ?_
            obtain ⟨h1, ⟨h2, h3, h4, h5, h6⟩, h7, h8, h9, h10, h11, h12⟩ := id B
            have hsa := sort_alike h1
            rw [t0E] at hbad
            refine r_7b h1.2.2.2.1 ?_
            refine r_begins (x := x) (b := b) (n := n) (k := k) (nD := nD) h2 h3 h4 h5 h6 c2 hk21 c4 (fun i i0 i1 => by rw [(h12 i i0 i1).1]; exact (c6.2 i i0 i1).1) h1.2.1 h1.2.2.1 h1.2.2.2.1 (fun _ m' mm er => ?_) (fun e hn hk _ => ?_) (fun bi hs0 hn hk _ hby m1 pb => ?_)
            · exact fun _ => r_7e (fun h => er.1 (er.2.1.symm.trans h)) (hm m' (rm.tr (RM.md mm (by decide))) ((mm.c 143 (by decide) (by decide) b).trans h6) er)
            · exfalso; omega
            · exfalso; clear hby; omega
          · rw [FIS_0] at h; split at h <;> omega
        · rw [t0E] at h20 bpf
          generalize hsoE : F_X7_sortHere x = so at *
          obtain ⟨b1, b2, b3, ⟨b4, b5, b6, b7, b8, b9⟩, _⟩ := id bpf
          have px1 : PT x1 := by
            unfold PT TPO at *
            rw [b1.f 46 4 (by decide) (by decide), b1.f 46 6 (by decide) (by decide), b1.f 46 9 (by decide) (by decide)]; exact px
          have f01 : x1.1 46 0 = 0 := (b1.f 46 0 (by decide) (by decide)).trans f0
          have e182 : x1.1 18 2 = x.1 18 2 := b1.f 18 2 (by decide) (by decide)
          have ph : PTH x1 k st n := by
            refine ⟨hk21, fun i i0 i1 => ?_, ?_, by omega⟩
            · obtain ⟨d1, d2, _⟩ := c6.2 i i0 i1
              rw [(b3 (st i) (by omega)).2.2.1]
              exact ⟨by omega, d2⟩
            · rw [b6]; rfl
          have mx1 : md exF exC x0 x1 := mx.tr (b1.mono (by decide) (by decide))
          refine m_rest (k := k) (st := st) kz1 px1 f01 (by omega) (by omega) b4 (fun _ => ph) (by omega) (fun e2 hf x2 m2 kz2 => ?_) (fun x' hr hno hnm kz' px' rsm => ?_)
          · -- a NAME of nothing
            have e0 : x2.1 46 0 = x.1 46 0 := (m2.f 46 0 (by decide) (by decide)).trans (b1.f 46 0 (by decide) (by decide))
            have e6 : x2.1 46 6 = x.1 46 6 := (m2.f 46 6 (by decide) (by decide)).trans (b1.f 46 6 (by decide) (by decide))
            refine ⟨fun _ => k57 _ a3 ?_ (by omega), fun h => ?_⟩
            · refine herr _ ((mx1.tr (m2.mono (by decide) (by decide))).tr (FIS_md.mono (by decide) (by decide))) (kz2.m46 FIS_md (by decide)) ?_ (by rw [FIS_0]; decide) fun m0 b QR b0 hm => adv m0 b QR b0 fun m rm B => ?_
              · unfold PT TPO at *
                show _ ∧ (0 ≤ (FIS x2 4).1 46 6 ∧ (FIS x2 4).1 46 6 ≤ 1600) ∧ _
                have q4 : (FIS x2 4).1 46 4 = x1.1 46 4 := (FIS_md.f 46 4 (by decide) (by decide)).trans (m2.f 46 4 (by decide) (by decide))
                have q6 : (FIS x2 4).1 46 6 = x1.1 46 6 := (FIS_md.f 46 6 (by decide) (by decide)).trans (m2.f 46 6 (by decide) (by decide))
                have q9 : (FIS x2 4).1 46 9 = x1.1 46 9 := (FIS_md.f 46 9 (by decide) (by decide)).trans (m2.f 46 9 (by decide) (by decide))
                rw [q4, q6, q9]; exact px1
              · obtain ⟨h1, ⟨h2, h3, h4, h5, h6⟩, h7, h8, h9, h10, h11, h12⟩ := id B
                have hsa := sort_alike h1
                rw [hsoE] at hsa
                have hfd := scope_alike B cs hwt bpf hn40 (hsoE.trans e2)
                rw [hf] at hfd
                refine r_7b h1.2.2.2.1 ?_
                refine r_begins (x := x) (b := b) (n := n) (k := k) (nD := nD) h2 h3 h4 h5 h6 c2 hk21 c4 (fun i i0 i1 => by rw [(h12 i i0 i1).1]; exact (c6.2 i i0 i1).1) h1.2.1 h1.2.2.1 h1.2.2.2.1 (fun hb => ?_) (fun _ _ _ _ m' rm' e43 er => ?_) (fun bi hs0 hn hk _ hby m1 pb => ?_)
                · exfalso; omega
                · have er' : ERR (FIS x2 4) m' := by
                    obtain ⟨w1, w2, w3⟩ := er
                    rw [FIS_0] at w2
                    rw [FIS_1] at w3
                    exact ⟨by rw [FIS_0]; decide, by rw [FIS_0]; exact w2, by rw [FIS_1, e6]; exact w3⟩
                  exact fun _ => r_7e (fun h => er'.1 (er'.2.1.symm.trans h)) (hm m' (rm.tr rm') e43 er')
                · exfalso
                  obtain ⟨t, ht, _⟩ := hby (hsa.symm.trans e2)
                  rw [← hfd] at ht; cases ht
            · rw [FIS_0] at h; omega
          · have mx' : md exF exC x0 x' := mx1.tr (hr.1.mono (by decide) (by decide))
            have rpl : ∀ m b QR, BEGR x m b k st n R nD → (∀ m', RM b m m' → m'.1 143 b = nD → ERR x' m' → QR m') → (∀ m', RM b m m' → BEGR x' m' b (k + 1) (stp st k n) (n + 1) R nD → (ar so = 0 → K_X11_readE_7 m' 0 QR) ∧ (0 < ar so → K_X11_readE_7 m' 1 QR)) → K_X11_readE_7 m 1 QR := fun m b QR B hE hG => r_place B cs h0 hwt hn40 (by omega) hsoE hso bpf hr hno hnm rsm hE hG
            refine ⟨fun h => k57 _ a3 ?_ (by omega), fun h => ?_⟩
            · refine herr x' mx' kz' px' h fun m0 b QR b0 hm => adv m0 b QR b0 fun m rm B => rpl m b QR B (fun m' rm' e43 er => hm m' (rm.tr rm') e43 er) (fun m' rm' B2 => absurd B2.1.2.2.2.2 h)
            · have cs2 := push_x cs hn40 (by omega) h0 hw3 bpf hr kz' px' h
              have es : stp st k n (k : Int) = n := by unfold stp; rw [if_pos rfl]
              have etop : topOf (k + 1) (stp st k n) = n := by
                unfold topOf; rw [if_neg (by omega), show (((k + 1 : Nat) : Int) - 1) = (k : Int) by omega]; exact es
              have e21 : ∀ z, x'.1 21 z = x1.1 21 z := hr.1.c 21 (by decide) (by decide)
              have e48n : x'.1 48 n = 0 := (hr.1.c 48 (by decide) (by decide) n).trans b9
              have e21n : x'.1 21 n = so := (e21 n).trans b4
              have sr2 : SRT x' (k + 1) (stp st k n) := by
                intro i i0 i1
                by_cases ek : i = (k : Int)
                · rw [ek, es, e21n]; omega
                · have e' : stp st k n i = st i := by unfold stp; rw [if_neg ek]
                  have hi := (c6.2 i i0 (by omega)).1
                  rw [e', e21, (b3 (st i) (by omega)).1]; exact sr i i0 (by omega)
              have hRn : 0 ≤ R := hR0.1
              have W : WOUT s0 x0 x' (stp st k n) (n + 1) R nD (fun s3 v3 => K_X7_readExpression_57 s3 a3 v3 Q) := by
                refine ⟨fun x2 m2 c2' hlt ad => k57 _ a3 ?_ (by omega), fun k' x2 m2 c2' sr2' hw2 ad => ?_, fun x2 m2 kz2 px2 he ad => k57 _ a3 ?_ (by omega)⟩
                · exact hfin x2 _ _ (mx'.tr (m2.mono (by decide) (by decide))) c2' hlt ad
                · have et : topOf (k' + 1) (stp st k n) = stp st k n k' := by
                    unfold topOf; rw [if_neg (by omega), show (((k' + 1 : Nat) : Int) - 1) = (k' : Int) by omega]
                  have ht := topOf_r c2'.2.2.2.2.1
                  rw [et] at ht
                  have e2 := md46 m2 (by decide)
                  have nx := ih x2 (k' + 1) (stp st k n) (n + 1) (a3 + 1) (by omega) c2' sr2' (fun _ => by rw [et]; exact hw2) (fun h => by omega) (by omega) (mx'.tr (m2.mono (by decide) (by decide))) ad
                  rw [et] at nx
                  refine s_X7_readExpression_57 ?_
                  (repeat' (with_reducible first | refine ⟨?_, ?_⟩ | intro _))
                  all_goals first | omega | exact nx
                · exact herr x2 (mx'.tr (m2.mono (by decide) (by decide))) kz2 px2 he ad
              have hwn : K_X7_nextWaiting_4 x' n 0 (fun s3 v3 => K_X7_readExpression_57 s3 a3 v3 Q) := by
                have hnb : 0 ≤ n ∧ n < x'.1 18 1 ∧ n < 40 := by have := cs2.2.1.1; omega
                have har := arity_ar (x := x') (p := n) hnb (by rw [e21n]; omega)
                have arr := ar_r so
                by_cases ha0 : ar so = 0
                · have mw := m_wait W k 0 cs2 sr2 (by rw [es, e21n, e48n]; omega) (by omega) fun m0 b QR b0 hm => adv m0 b QR b0 fun m rm B => rpl m b QR B (fun m' rm' e43 er => absurd h er.1) (fun m' rm' B2 => ⟨fun _ => hm m' (rm.tr rm') B2, fun h => by omega⟩)
                  rw [es] at mw; exact mw
                · have k73 : K_X7_nextWaiting_73 x' n 1 (fun s3 v3 => K_X7_readExpression_57 s3 a3 v3 Q) := by
                    refine s_X7_nextWaiting_73 fun _ _ _ => ⟨fun h => absurd h (by decide), fun _ => ?_⟩
                    have := W.2.1 k x' md.rf cs2 sr2 (by rw [es, e48n, e21n]; omega) fun m0 b QR b0 hm => adv m0 b QR b0 fun m rm B => rpl m b QR B (fun m' rm' e43 er => absurd h er.1) (fun m' rm' B2 => ⟨fun h => absurd h ha0, fun _ => hm m' (rm.tr rm') B2⟩)
                    rw [es] at this; exact this
                  have k68 : K_X7_nextWaiting_68 x' n (fun s3 v3 => K_X7_readExpression_57 s3 a3 v3 Q) := s_X7_nextWaiting_68 fun _ _ => k73
                  refine s_X7_nextWaiting_4 ?_
                  rw [har, e21n, e48n]
                  (repeat' (with_reducible first | refine ⟨?_, ?_⟩ | intro _))
                  all_goals first | omega | exact P_arity _ _ _ | exact P_parent _ _ _ | exact k68
              refine s_X7_nextWaiting ?_
              (repeat' (with_reducible first | refine ⟨?_, ?_⟩ | intro _))
              exact hwn
      refine s_X7_readExpression_17 ?_
      (repeat' (with_reducible first | refine ⟨?_, ?_⟩ | intro _))
      all_goals first | omega | exact beg
  refine s_X7_readExpression ?_
  have := k17 41 x0 0 (fun _ => 0) R 0 (by omega) cs0 (fun i i0 i1 => by omega) (fun h => by omega) (fun _ => rfl) (by omega) md.rf (fun m0 b QR b0 hm => hm m0 .rf b0)
  have f0 := cs0.1.2.2
  (repeat' (with_reducible first | refine ⟨?_, ?_⟩ | intro _))
  all_goals first | exact absurd f0 (by assumption) | exact this | omega
end EXPR2
