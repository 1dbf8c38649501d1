/-! THE REFERENCE: a place begun -/
theorem exw_congr {so bi dR as so' bi' dR' as' : Int → Int} {kd kd' : Int → Int → Int} {p : Int} (h1 : so' p = so p) (h2 : so p = 2 → bi' p = bi p ∧ (bi p < 100 → so' (bi p) = so (bi p) ∧ (so (bi p) = 4 → kd' (bi p) 0 = kd (bi p) 0 ∧ as' (kd (bi p) 0) = as (kd (bi p) 0))) ∧ (100 ≤ bi p → dR' (bi p - 100) = dR (bi p - 100) ∧ as' (dR (bi p - 100)) = as (dR (bi p - 100)))) : exw so' bi' dR' as' kd' p = exw so bi dR as kd p := by
  unfold exw
  rw [h1]
  by_cases c : so p = 2
  · rw [if_pos c, if_pos c]
    obtain ⟨e1, e2, e3⟩ := h2 c
    unfold rt
    rw [e1]
    by_cases c2 : bi p < 100
    · rw [if_pos c2, if_pos c2]
      obtain ⟨e4, e5⟩ := e2 c2
      rw [e4]
      by_cases c3 : so (bi p) = 4
      · rw [if_pos c3, if_pos c3]
        obtain ⟨e6, e7⟩ := e5 c3
        rw [e6, e7]
      · rw [if_neg c3, if_neg c3]; rfl
    · rw [if_neg c2, if_neg c2]
      obtain ⟨e6, e7⟩ := e3 (by omega)
      rw [e6, e7]
  · rw [if_neg c, if_neg c]
theorem ksum_congr {so as so' as' : Int → Int} {kd kd' : Int → Int → Int} {p : Int} (h1 : so' p = so p) (h2 : ∀ k, 0 ≤ k → k < ar (so p) → kd' p k = kd p k ∧ as' (kd p k) = as (kd p k)) : ksum so' as' kd' p = ksum so as kd p := by
  unfold ksum
  rw [h1]
  have e : ∀ k : Int, 0 ≤ k → (if k + 1 ≤ ar (so p) then as' (kd' p k) else 0) = (if k + 1 ≤ ar (so p) then as (kd p k) else 0) := by
    intro k k0
    by_cases c : k + 1 ≤ ar (so p)
    · rw [if_pos c, if_pos c]
      obtain ⟨a, c⟩ := h2 k k0 (by omega)
      rw [a, c]
    · rw [if_neg c, if_neg c]
  have e0 := e 0 (by omega)
  have e1 := e 1 (by omega)
  have e2 := e 2 (by omega)
  rw [show (0 : Int) + 1 = 1 by omega] at e0
  rw [show (1 : Int) + 1 = 2 by omega] at e1
  rw [show (2 : Int) + 1 = 3 by omega] at e2
  rw [e0, e1, e2]
/-- what beginsPlace has made of the state when it comes back without a fault -/
def PSH (s s' : ST) (b m n nK nK' : Int) : Prop := (∀ x, x ≠ n → bso s' b x = bso s b x ∧ bbi s' b x = bbi s b x ∧ bdO s' b x = bdO s b x ∧ bkA s' b x = bkA s b x ∧ bkL s' b x = bkL s b x) ∧ (∀ x, ben s' b x = ben s b x ∧ bas s' b x = bas s b x ∧ bdR s' b x = bdR s b x) ∧ (∀ x k, bkd s' b x k = bkd s b x k) ∧ (∀ k, k < nK → bkC s' b k = bkC s b k) ∧ (nK ≤ nK' ∧ nK' ≤ 20 ∧ ∀ k, nK ≤ k → k < nK' → 0 ≤ bkC s' b k ∧ bkC s' b k ≤ 5) ∧ (∀ i, i ≠ m → s'.1 159 i = s.1 159 i ∧ s'.1 160 i = s.1 160 i) ∧ s'.1 159 m = n ∧ s'.1 160 m = 0
theorem PSH.go {s s' : ST} {b m n R nD nK nK' : Int} (h : RP s b m n R nD nK) (q : PSH s s' b m n nK nK') (hn : n ≤ 39) (hm : m ≤ 20) (h0 : m = 0 → n = R) (htop : 0 < m → s.1 160 (m - 1) < ar (bso s b (s.1 159 (m - 1)))) (hso : 0 ≤ bso s' b n ∧ bso s' b n ≤ 16) (hnm : bso s' b n = 2 → NMC s' b (m + 1) n) (hno : bso s' b n ≠ 2 → bbi s' b n = -1) (hdO : bdO s' b n = nD) (h16 : bso s' b n = 16 → (0 ≤ bkA s' b n ∧ 1 ≤ bkL s' b n ∧ bkA s' b n + bkL s' b n ≤ nK') ∧ KW (bkC s' b) (bkA s' b n) (bkL s' b n)) : RP s' b (m + 1) (n + 1) R nD nK' := by
  obtain ⟨ra, rb, rc, rd, re⟩ := id h
  obtain ⟨q1, q2, q3, q4, q5, q6, q7, q8⟩ := q
  obtain ⟨a1, a2, a3, a4, a5, a6, a7, a8, a9, a10⟩ := ra
  have opn : ∀ p, p < n → (OPN s' (m + 1) p ↔ OPN s m p) := by
    intro p hp
    constructor
    · rintro ⟨i, ⟨i0, i1⟩, e⟩
      by_cases c : i = m
      · rw [c, q7] at e; omega
      · rw [(q6 i c).1] at e; exact ⟨i, ⟨i0, by omega⟩, e⟩
    · rintro ⟨i, ⟨i0, i1⟩, e⟩
      exact ⟨i, ⟨i0, by omega⟩, by rw [(q6 i (by omega)).1]; exact e⟩
  have opi : ∀ i, 0 ≤ i → i < m → s.1 159 i < n := fun i i0 i1 => (rd.2 i i0 i1).1.1.2
  refine ⟨⟨by omega, a2, by omega, by omega, a5, ?_, ?_, ?_, ?_, ?_⟩, ?_, ?_, ?_, ?_⟩
  · intro hd; rw [(q2 _).2.2, (q2 _).2.2, (q2 _).1]; exact a6 hd
  · intro d d0 d1; rw [(q2 _).2.2]; exact a7 d d0 d1
  · intro d d0 d1; rw [(q2 _).2.2, (q2 _).2.2, (q2 _).1]; exact a8 d d0 d1
  · rw [(q2 _).2.2]; exact a9
  · intro k k0 k1
    by_cases c : k < nK
    · rw [q4 k c]; exact a10 k k0 c
    · exact q5.2.2 k (by omega) k1
  · intro p p0 p1
    by_cases c : p = n
    · rw [c]
      exact ⟨hso, hnm, hno, fun hh => by omega, fun _ => hdO, h16⟩
    · obtain ⟨e1, e2, e3, e4, e5⟩ := q1 p c
      obtain ⟨b1, b2, b3, b4, b5, b6⟩ := rb p p0 (by omega)
      rw [e1, e2, e3, e4, e5]
      refine ⟨b1, fun h2 => ?_, b3, ?_, b5, fun h16 => ?_⟩
      · obtain ⟨n1, n2⟩ := b2 h2
        unfold NMC
        rw [e2, e3]
        refine ⟨fun hl => ?_, n2⟩
        obtain ⟨⟨x1, x2, x3⟩, x4⟩ := n1 hl
        rw [(q2 _).1, q3, (q2 _).1, (q1 _ (by omega)).1]
        refine ⟨⟨x1, x2, x3.imp (fun h => (opn _ (by omega)).2 h) id⟩, x4.imp id fun ⟨y1, y2⟩ => ⟨y1, fun i i0 i1 he => ?_⟩⟩
        by_cases ci : i = m
        · rw [ci, q7] at he; omega
        · rw [(q6 i ci).1] at he
          rw [(q6 i ci).2]; exact y2 i i0 (by omega) he
      · rw [(q2 _).2.2, (q2 _).1]; exact b4
      · obtain ⟨w1, w2⟩ := b6 h16
        exact ⟨by omega, w2.congr (by omega) (fun k k0 k1 => q4 k (by omega))⟩
  · intro p p0 p1 hc
    have hpn : p ≠ n := fun e => hc ⟨m, ⟨a4.1, by omega⟩, by rw [q7]; exact e.symm⟩
    obtain ⟨t1, t2⟩ := rc p p0 (by omega) (fun hh => hc ((opn p (by omega)).2 hh))
    obtain ⟨e1, e2, e3, e4, e5⟩ := q1 p hpn
    obtain ⟨b1, b2, b3, b4, b5, b6⟩ := rb p p0 (by omega)
    constructor
    · unfold T1p at *
      rw [e1, (q2 p).1, q3, q3, q3, (q2 _).1, (q2 _).1, (q2 _).1]
      obtain ⟨⟨x1, x2, x3, x4, x5, x6, x7, x8⟩, x9⟩ := t1
      refine ⟨⟨x1, by omega, x3, fun h => by have := x4 h; omega, x5, fun h => by have := x6 h; omega, x7, fun h => by have := x8 h; omega⟩, fun k k0 k1 => ?_⟩
      rw [q3, (q2 _).1]; exact x9 k k0 k1
    · unfold DNp at *
      rw [(q2 p).2.1, ksum_congr (so := bso s b) (as := bas s b) (kd := bkd s b) e1 (fun k _ _ => ⟨q3 p k, (q2 _).2.1⟩), exw_congr (so := bso s b) (bi := bbi s b) (dR := bdR s b) (as := bas s b) (kd := bkd s b) e1 (fun h2 => ⟨e2, fun hl => ⟨(q1 _ (by have := (b2 h2).1 hl; omega)).1, fun _ => ⟨q3 _ _, (q2 _).2.1⟩⟩, fun _ => ⟨(q2 _).2.2, (q2 _).2.1⟩⟩)]
      exact t2
  · constructor
    · intro _
      by_cases c : m = 0
      · rw [← h0 c, ← q7, c]
      · rw [(q6 0 (by omega)).1]; exact rd.1 (by omega)
    · intro i i0 i1
      by_cases c : i = m
      · unfold Rd1 nxt
        rw [c, q7, q8, if_neg (by omega)]
        have := ar_r (bso s' b n)
        exact ⟨⟨by omega, by omega, fun h => by omega⟩, fun _ => rfl, fun h => by omega, fun h => by omega, fun h => by omega, fun h => by omega, fun k k0 k1 => by omega⟩
      · have hr := rd.2 i i0 (by omega)
        have hi := opi i i0 (by omega)
        have hnx : nxt s' (m + 1) (n + 1) i = nxt s m n i := by
          unfold nxt
          by_cases c2 : i + 1 < m
          · rw [if_pos (by omega), if_pos c2, (q6 _ (by omega)).1]
          · rw [if_pos (by omega), if_neg c2, show i + 1 = m by omega, q7]
        unfold Rd1 at hr ⊢
        rw [hnx, (q6 i c).1, (q6 i c).2, (q1 _ (by omega)).1, q3, q3, q3, q3, (q2 _).1, (q2 _).1, (q2 _).1]
        obtain ⟨⟨y1, y2, y3⟩, y4, y5, y6, y7, y8, y9⟩ := hr
        refine ⟨⟨by omega, y2, fun _ => ?_⟩, y4, y5, y6, y7, y8, fun k k0 k1 => ?_⟩
        · by_cases c2 : i + 1 < m
          · exact y3 c2
          · have := htop (by omega)
            rw [show m - 1 = i by omega] at this
            exact this
        · rw [q3, (q2 _).1]; exact y9 k k0 k1
  · intro p i p0 p1 hc i0 i1 hlt
    have hpn : p ≠ n := fun e => hc ⟨m, ⟨a4.1, by omega⟩, by rw [q7]; exact e.symm⟩
    have hc' : ¬ OPN s m p := fun hh => hc ((opn p (by omega)).2 hh)
    rw [(q2 p).1]
    by_cases c : i = m
    · rw [c, q7]
      exact (rc p p0 (by omega) hc').1.1.2.1.2
    · rw [(q6 i c).1] at hlt ⊢
      exact re p i p0 (by omega) hc' i0 (by omega) hlt
