/-! THE REFERENCE: a place ended; a def read -/
/-- what endsPlace has made of the state (but for 'in'); t the place that is ended -/
def POP (s s' : ST) (b m n t : Int) : Prop := (∀ x, bso s' b x = bso s b x ∧ bbi s' b x = bbi s b x ∧ bdO s' b x = bdO s b x ∧ bkA s' b x = bkA s b x ∧ bkL s' b x = bkL s b x ∧ bdR s' b x = bdR s b x ∧ bkC s' b x = bkC s b x) ∧ (∀ x, x ≠ t → ben s' b x = ben s b x ∧ bas s' b x = bas s b x) ∧ ben s' b t = n - 1 ∧ (∀ i, s'.1 159 i = s.1 159 i) ∧ (∀ i, i ≠ m - 2 → s'.1 160 i = s.1 160 i) ∧ (∀ x k, 0 ≤ k → k ≤ 2 → (m = 1 ∨ x ≠ s.1 159 (m - 2) ∨ k ≠ s.1 160 (m - 2)) → bkd s' b x k = bkd s b x k) ∧ (2 ≤ m → bkd s' b (s.1 159 (m - 2)) (s.1 160 (m - 2)) = t ∧ s'.1 160 (m - 2) = s.1 160 (m - 2) + 1)
section POPS
variable {s s' : ST} {b m n R nD nK t : Int}
/-- the root that a NAME has made anew isn't the place that is ended -/
theorem POP.rt (h : RP s b m n R nD nK) (q : POP s s' b m n t) (hm : 1 ≤ m) (ht : t = s.1 159 (m - 1)) {p : Int} (p0 : 0 ≤ p) (p1 : p < n) (h2 : bso s b p = 2) :
    (bbi s b p < 100 → bso s b (bbi s b p) = 4 → bkd s' b (bbi s b p) 0 = bkd s b (bbi s b p) 0 ∧ bkd s b (bbi s b p) 0 ≠ t) ∧ (100 ≤ bbi s b p → bdR s b (bbi s b p - 100) ≠ t) := by
  obtain ⟨ra, rb, rc, rd, re⟩ := id h
  obtain ⟨q1, q2, q3, q4, q5, q6, q7⟩ := q
  obtain ⟨a1, a2, a3, a4, a5, a6, a7, a8, a9, a10⟩ := ra
  obtain ⟨b1, b2, b3, b4, b5, b6⟩ := rb p p0 p1
  obtain ⟨n1, n2⟩ := b2 h2
  have hR := (rd.2 (m - 1) (by omega) (by omega)).1.1.1
  constructor
  · intro hl h4
    obtain ⟨⟨x1, x2, x3⟩, x4⟩ := n1 hl
    have x5 : (bso s b (bbi s b p) = 4 ∧ ben s b (bkd s b (bbi s b p) 0) + 1 ≤ p) ∧ ∀ i, 0 ≤ i → i < m → s.1 159 i = bbi s b p → 1 ≤ s.1 160 i := x4.resolve_left (by omega)
    by_cases c : OPN s m (bbi s b p)
    · obtain ⟨i, ⟨i0, i1⟩, e⟩ := c
      have od := x5.2 i i0 i1 e
      have hk := (rd.2 i i0 i1).2.2.2.2.2.2 0 (by omega) (by omega)
      rw [e] at hk
      constructor
      · refine q6 _ 0 (by omega) (by omega) ?_
        by_cases c1 : m = 1
        · exact Or.inl c1
        · by_cases c2 : i = m - 2
          · exact Or.inr (Or.inr (by rw [← c2]; omega))
          · refine Or.inr (Or.inl fun e2 => c2 ?_)
            exact rd.inj i0 i1 (by omega) (by omega) (e.trans e2)
      · by_cases c1 : i = m - 1
        · rw [c1] at e; omega
        · have := rd.kidlt (k := 0) i0 i1 (by omega) (by omega) (show i < m - 1 by omega) (by omega)
          rw [e] at this
          omega
    · have hk := (rc _ x1 (by omega) c).1.2 0 (by omega) (by rw [h4]; decide)
      constructor
      · refine q6 _ 0 (by omega) (by omega) ?_
        by_cases c1 : m = 1
        · exact Or.inl c1
        · exact Or.inr (Or.inl fun e2 => c ⟨m - 2, ⟨by omega, by omega⟩, e2.symm⟩)
      · intro e
        exact h.kidc x1 (by omega) c (Int.le_refl 0) (by rw [h4]; decide) ⟨m - 1, ⟨by omega, by omega⟩, by rw [e]; exact ht.symm⟩
  · intro hg
    have := n2 hg
    have hd : bdO s b p ≤ nD := by
      by_cases c : p < R
      · have := (b4 c).1; omega
      · rw [b5 (by omega)]; exact Int.le_refl _
    have := a7 (bbi s b p - 100) (by omega) (by omega)
    omega
theorem POP.go (h : RP s b m n R nD nK) (q : POP s s' b m n t) (hm : 1 ≤ m) (ht : t = s.1 159 (m - 1)) (htop : ar (bso s b t) ≤ s.1 160 (m - 1)) (hdn : (1 ≤ bas s' b t ∧ bas s' b t ≤ 1000000) ∧ (bas s' b t < 1000000 → bas s' b t = 1 + ksum (bso s b) (bas s b) (bkd s b) t + exw (bso s b) (bbi s b) (bdR s b) (bas s b) (bkd s b) t) ∧ (bas s' b t = 1000000 → 1000000 ≤ 1 + ksum (bso s b) (bas s b) (bkd s b) t + exw (bso s b) (bbi s b) (bdR s b) (bas s b) (bkd s b) t)) : RP s' b (m - 1) n R nD nK := by
  have hrt := fun {p : Int} => POP.rt h q hm ht (p := p)
  obtain ⟨ra, rb, rc, rd, re⟩ := id h
  obtain ⟨q1, q2, q3, q4, q5, q6, q7⟩ := q
  obtain ⟨a1, a2, a3, a4, a5, a6, a7, a8, a9, a10⟩ := ra
  have hT := rd.2 (m - 1) (by omega) (by omega)
  obtain ⟨⟨t1, t2, t3⟩, t4, t5, t6, t7, t8, t9⟩ := id hT
  rw [← ht] at t1 t2 t3 t4 t5 t6 t7 t8 t9
  have tn : nxt s m n (m - 1) = n := by unfold nxt; rw [if_neg (by omega)]
  rw [tn] at t4 t8 t9
  have tod : s.1 160 (m - 1) = ar (bso s b t) := by omega
  rw [tod] at t4 t5 t6 t7 t8 t9
  have opn : ∀ p, OPN s m p ↔ OPN s' (m - 1) p ∨ p = t := by
    intro p
    constructor
    · rintro ⟨i, ⟨i0, i1⟩, e⟩
      by_cases c : i = m - 1
      · rw [c] at e; exact Or.inr (by rw [ht]; exact e.symm)
      · exact Or.inl ⟨i, ⟨i0, by omega⟩, by rw [q4]; exact e⟩
    · rintro (⟨i, ⟨i0, i1⟩, e⟩ | e)
      · rw [q4] at e; exact ⟨i, ⟨i0, by omega⟩, e⟩
      · exact ⟨m - 1, ⟨by omega, by omega⟩, by rw [e]; exact ht.symm⟩
  have tno : ∀ i, 0 ≤ i → i < m - 1 → s.1 159 i < t := fun i i0 i1 => by
    rw [ht]; exact rd.lt i0 (by omega) (by omega)
  have tc : ¬ OPN s' (m - 1) t := by
    rintro ⟨i, ⟨i0, i1⟩, e⟩
    rw [q4] at e
    have := tno i i0 i1
    omega
  -- kids of t
  have kt : ∀ k, 0 ≤ k → k ≤ 2 → bkd s' b t k = bkd s b t k := fun k k0 k2 => q6 _ _ k0 k2 (by
    by_cases c : m = 1
    · exact Or.inl c
    · exact Or.inr (Or.inl (by have := tno (m - 2) (by omega) (by omega); omega)))
  have kc : ∀ p, ¬ OPN s m p → ∀ k, 0 ≤ k → k ≤ 2 → bkd s' b p k = bkd s b p k := fun p hp k k0 k2 => q6 _ _ k0 k2 (by
    by_cases c : m = 1
    · exact Or.inl c
    · exact Or.inr (Or.inl fun e => hp ⟨m - 2, ⟨by omega, by omega⟩, e.symm⟩))
  have dlt : ∀ d, 0 ≤ d → d < nD → bdR s b d ≠ t := fun d d0 d1 => by have := a7 d d0 d1; omega
  have hex : ∀ p, 0 ≤ p → p < n → exw (bso s' b) (bbi s' b) (bdR s' b) (bas s' b) (bkd s' b) p = exw (bso s b) (bbi s b) (bdR s b) (bas s b) (bkd s b) p := by
    intro p p0 p1
    refine exw_congr (q1 p).1 fun h2 => ⟨(q1 p).2.1, fun hl => ⟨(q1 _).1, fun h4 => ?_⟩, fun hg => ⟨(q1 _).2.2.2.2.2.1, (q2 _ ((hrt p0 p1 h2).2 hg)).2⟩⟩
    obtain ⟨e1, e2⟩ := (hrt p0 p1 h2).1 hl h4
    exact ⟨e1, (q2 _ e2).2⟩
  refine ⟨⟨by omega, a2, a3, by omega, a5, fun hd => ?_, fun d d0 d1 => ?_, fun d d0 d1 => ?_, ?_, fun k k0 k1 => ?_⟩, ?_, ?_, ?_, ?_⟩
  · rw [(q1 _).2.2.2.2.2.1, (q1 _).2.2.2.2.2.1, (q2 _ (dlt _ (by omega) (by omega))).1]; exact a6 hd
  · rw [(q1 _).2.2.2.2.2.1]; exact a7 d d0 d1
  · rw [(q1 _).2.2.2.2.2.1, (q1 _).2.2.2.2.2.1, (q2 _ (dlt _ (by omega) (by omega))).1]; exact a8 d d0 d1
  · rw [(q1 _).2.2.2.2.2.1]; exact a9
  · rw [(q1 _).2.2.2.2.2.2]; exact a10 k k0 k1
  · intro p p0 p1
    obtain ⟨e1, e2, e3, e4, e5, e6, e7⟩ := q1 p
    obtain ⟨b1, b2, b3, b4, b5, b6⟩ := rb p p0 p1
    rw [e1, e2, e3, e4, e5]
    refine ⟨b1, fun h2 => ?_, b3, fun hR => ?_, b5, fun h16 => ?_⟩
    · obtain ⟨n1, n2⟩ := b2 h2
      unfold NMC
      rw [e2, e3]
      refine ⟨fun hl => ?_, n2⟩
      obtain ⟨⟨x1, x2, x3⟩, x4⟩ := n1 hl
      rw [(q1 _).1]
      refine ⟨⟨x1, x2, ?_⟩, x4.imp id fun ⟨y1, y2⟩ => ⟨⟨y1.1, ?_⟩, fun i i0 i1 he => ?_⟩⟩
      · by_cases c : bbi s b p = t
        · exact Or.inr (by rw [c, q3]; omega)
        · rcases x3 with x3 | x3
          · exact Or.inl (((opn _).1 x3).resolve_right c)
          · exact Or.inr (by rw [(q2 _ c).1]; exact x3)
      · obtain ⟨e1, e2⟩ := (hrt p0 p1 h2).1 hl y1.1
        rw [e1, (q2 _ e2).1]; exact y1.2
      · rw [q4] at he
        have := y2 i i0 (by omega) he
        by_cases c : i = m - 2
        · rw [c] at this ⊢
          rw [(q7 (by omega)).2]; omega
        · rw [q5 i c]; exact this
    · obtain ⟨w1, w2⟩ := b4 hR
      rw [(q1 _).2.2.2.2.2.1, (q2 _ (dlt _ w1.1 w1.2)).1]
      exact ⟨w1, w2⟩
    · obtain ⟨w1, w2⟩ := b6 h16
      exact ⟨w1, w2.congr (by omega) (fun k _ _ => (q1 k).2.2.2.2.2.2)⟩
  · intro p p0 p1 hc
    by_cases c : p = t
    · subst c
      have har := ar_r (bso s b p)
      have enk : ∀ k, 0 ≤ k → k < ar (bso s b p) → ben s' b (bkd s b p k) = ben s b (bkd s b p k) := fun k k0 k1 => (q2 _ (by have := t9 k k0 k1; omega)).1
      constructor
      · unfold T1p
        rw [(q1 p).1, kt 0 (by omega) (by omega), kt 1 (by omega) (by omega), kt 2 (by omega) (by omega), q3]
        refine ⟨⟨(rb p p0 p1).1, by omega, fun h => ?_, fun h => ?_, fun h => ?_, fun h => ?_, fun h => ?_, fun h => ?_⟩, fun k k0 k1 => ?_⟩
        · have := t4 h; omega
        · have := t5 h
          have := t9 0 (by omega) (by omega)
          omega
        · rw [enk 0 (by omega) (by omega)]
          have := t8 (by omega)
          rw [h] at this
          rw [show (1 : Int) - 1 = 0 by omega] at this
          omega
        · rw [enk 0 (by omega) (by omega)]
          have := t6 h
          have := t9 1 (by omega) (by omega)
          omega
        · rw [enk 1 (by omega) (by omega)]
          have := t8 (by omega)
          rw [h] at this
          rw [show (2 : Int) - 1 = 1 by omega] at this
          omega
        · rw [enk 1 (by omega) (by omega), enk 2 (by omega) (by omega)]
          have := t7 (by omega)
          have h9 := t9 2 (by omega) (by omega)
          have := t8 (by omega)
          rw [h] at this
          rw [show (3 : Int) - 1 = 2 by omega] at this
          omega
        · rw [kt k k0 (by omega), enk k k0 k1]
          have := t9 k k0 k1
          omega
      · unfold DNp
        rw [ksum_congr (so := bso s b) (as := bas s b) (kd := bkd s b) (q1 p).1 (fun k k0 k1 => ⟨kt k k0 (by omega), (q2 _ (by have := t9 k k0 k1; omega)).2⟩), hex p p0 p1]
        exact hdn
    · have hc' : ¬ OPN s m p := fun hh => ((opn p).1 hh).elim hc c
      obtain ⟨u1, u2⟩ := rc p p0 p1 hc'
      have har := ar_r (bso s b p)
      have kne : ∀ k, 0 ≤ k → k < ar (bso s b p) → bkd s b p k ≠ t := fun k k0 k1 e => h.kidc p0 p1 hc' k0 k1 (by rw [e]; exact (opn t).2 (Or.inr rfl))
      constructor
      · unfold T1p at *
        rw [(q1 p).1, kc p hc' 0 (by omega) (by omega), kc p hc' 1 (by omega) (by omega), kc p hc' 2 (by omega) (by omega), (q2 p c).1]
        obtain ⟨⟨x1, x2, x3, x4, x5, x6, x7, x8⟩, x9⟩ := u1
        refine ⟨⟨x1, x2, x3, x4, fun h => ?_, fun h => ?_, fun h => ?_, fun h => ?_⟩, fun k k0 k1 => ?_⟩
        · rw [(q2 _ (kne 0 (by omega) (by omega))).1]; exact x5 h
        · rw [(q2 _ (kne 0 (by omega) (by omega))).1]; exact x6 h
        · rw [(q2 _ (kne 1 (by omega) (by omega))).1]; exact x7 h
        · rw [(q2 _ (kne 1 (by omega) (by omega))).1, (q2 _ (kne 2 (by omega) (by omega))).1]; exact x8 h
        · rw [kc p hc' k k0 (by omega), (q2 _ (kne k k0 k1)).1]; exact x9 k k0 k1
      · unfold DNp at *
        rw [(q2 p c).2, ksum_congr (so := bso s b) (as := bas s b) (kd := bkd s b) (q1 p).1 (fun k k0 k1 => ⟨kc p hc' k k0 (by omega), (q2 _ (kne k k0 k1)).2⟩), hex p p0 p1]
        exact u2
  · constructor
    · intro hp
      rw [q4]; exact rd.1 (by omega)
    · intro i i0 i1
      have hr := rd.2 i i0 (by omega)
      have hit := tno i i0 i1
      have kl : ∀ k, 0 ≤ k → k < s.1 160 i → ben s' b (bkd s b (s.1 159 i) k) = ben s b (bkd s b (s.1 159 i) k) ∧ ben s b (bkd s b (s.1 159 i) k) < t := fun k k0 k1 => by
        have h1 := rd.kidlt i0 (show i < m by omega) k0 k1 (show i < m - 1 by omega) (by omega)
        rw [← ht] at h1
        have h2 := hr.2.2.2.2.2.2 k k0 k1
        exact ⟨(q2 _ (by omega)).1, h1⟩
      by_cases c : i = m - 2
      · subst c
        have hm2 : 2 ≤ m := by omega
        obtain ⟨g1, g2⟩ := q7 hm2
        have ko : ∀ k, 0 ≤ k → k ≤ 2 → k ≠ s.1 160 (m - 2) → bkd s' b (s.1 159 (m - 2)) k = bkd s b (s.1 159 (m - 2)) k := fun k k0 k2 hk => q6 _ _ k0 k2 (Or.inr (Or.inr hk))
        have nx0 : nxt s m n (m - 2) = t := by unfold nxt; rw [if_pos (by omega), show m - 2 + 1 = m - 1 by omega]; exact ht.symm
        have nx1 : nxt s' (m - 1) n (m - 2) = n := by unfold nxt; rw [if_neg (by omega)]
        unfold Rd1 at hr ⊢
        rw [nx0] at hr
        rw [nx1, q4, g2, (q1 _).1]
        generalize s.1 160 (m - 2) = od at *
        generalize s.1 159 (m - 2) = o at *
        obtain ⟨⟨y1, y2, y3⟩, y4, y5, y6, y7, y8, y9⟩ := hr
        have y3' := y3 (by omega)
        have har := ar_r (bso s b o)
        refine ⟨⟨by omega, by omega, fun h => by omega⟩, fun h => by omega, fun h => ?_, fun h => ?_, fun h => ?_, fun h => ?_, fun k k0 k1 => ?_⟩
        · by_cases c0 : od = 0
          · rw [c0] at g1; rw [g1]; exact y4 c0
          · rw [ko 0 (by omega) (by omega) (by omega)]; exact y5 (by omega)
        · by_cases c1 : od = 1
          · rw [c1] at g1
            rw [g1, ko 0 (by omega) (by omega) (by omega), (kl 0 (by omega) (by omega)).1]
            have := y8 (by omega)
            rw [c1, show (1 : Int) - 1 = 0 by omega] at this
            exact this
          · rw [ko 1 (by omega) (by omega) (by omega), ko 0 (by omega) (by omega) (by omega), (kl 0 (by omega) (by omega)).1]; exact y6 (by omega)
        · have c2 : od = 2 := by omega
          rw [c2] at g1
          rw [g1, ko 1 (by omega) (by omega) (by omega), (kl 1 (by omega) (by omega)).1]
          have := y8 (by omega)
          rw [c2, show (2 : Int) - 1 = 1 by omega] at this
          exact this
        · rw [show od + 1 - 1 = od by omega, g1, q3]; omega
        · by_cases ck : k = od
          · rw [ck, g1, q3]; omega
          · rw [ko k k0 (by omega) ck, (kl k k0 (by omega)).1]
            have := y9 k k0 (by omega)
            have := (kl k k0 (by omega)).2
            omega
      · have ki : ∀ k, 0 ≤ k → k ≤ 2 → bkd s' b (s.1 159 i) k = bkd s b (s.1 159 i) k := fun k k0 k2 => q6 _ _ k0 k2 (by
          by_cases cm : m = 1
          · exact Or.inl cm
          · exact Or.inr (Or.inl fun e => c (rd.inj i0 (by omega) (by omega) (by omega) e)))
        have nx1 : nxt s' (m - 1) n i = nxt s m n i := by unfold nxt; rw [if_pos (by omega), if_pos (by omega), q4]
        unfold Rd1 at hr ⊢
        have har := ar_r (bso s b (s.1 159 i))
        rw [nx1, q4, q5 i c, (q1 _).1, ki 0 (by omega) (by omega), ki 1 (by omega) (by omega), ki 2 (by omega) (by omega)]
        obtain ⟨⟨y1, y2, y3⟩, y4, y5, y6, y7, y8, y9⟩ := hr
        refine ⟨⟨y1, y2, fun h => y3 (by omega)⟩, y4, y5, fun h => ?_, fun h => ?_, fun h => ?_, fun k k0 k1 => ?_⟩
        · rw [(kl 0 (by omega) (by omega)).1]; exact y6 h
        · rw [(kl 1 (by omega) (by omega)).1]; exact y7 h
        · rw [ki _ (by omega) (by omega), (kl _ (by omega) (by omega)).1]; exact y8 h
        · rw [ki k k0 (by omega), (kl k k0 k1).1]; exact y9 k k0 k1
  · intro p i p0 p1 hc i0 i1 hlt
    rw [q4] at hlt ⊢
    by_cases c : p = t
    · have := tno i i0 i1; omega
    · rw [(q2 p c).1]
      exact re p i p0 p1 (fun hh => ((opn p).1 hh).elim hc c) i0 (by omega) hlt
end POPS
