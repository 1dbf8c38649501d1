/-! READING ALIKE: the words that stand for themselves; the reference's tokens, exactly -/
def ow : List Nat := [463, 25779, 4262, 6830, 12468, 294, 99724, 525618, 6605428, 642891204, 14636, 114131, 267300, 656684, 1156, 398963, 51, 15021, 21583496, 18935, 81544, 215533, 1497, 302]
def kw : List Nat := [28271, 7955827, 6579558, 6714734, 7103860, 26982, 1667329132, 1885432178, 439855772532, 126879297138276, 7235948, 1668247155, 1751474532, 1952541036, 6382692, 1818588019, 24947, 7239021, 500136506472, 7499639, 1651471464, 1718775661, 6385273, 26990]
def kwl : List Int64 := [28271, 7955827, 6579558, 6714734, 7103860, 26982, 1667329132, 1885432178, 439855772532, 126879297138276, 7235948, 1668247155, 1751474532, 1952541036, 6382692, 1818588019, 24947, 7239021, 500136506472, 7499639, 1651471464, 1718775661, 6385273, 26990]
theorem kw_cv : ∀ k : Nat, k < 24 → kw.getD k 0 = cv (ow.getD k 0) := by
  intro k hk
  have h : k = 0 ∨ k = 1 ∨ k = 2 ∨ k = 3 ∨ k = 4 ∨ k = 5 ∨ k = 6 ∨ k = 7 ∨ k = 8 ∨ k = 9 ∨ k = 10 ∨ k = 11 ∨ k = 12 ∨ k = 13 ∨ k = 14 ∨ k = 15 ∨ k = 16 ∨ k = 17 ∨ k = 18 ∨ k = 19 ∨ k = 20 ∨ k = 21 ∨ k = 22 ∨ k = 23 := by omega
  rcases h with rfl | rfl | rfl | rfl | rfl | rfl | rfl | rfl | rfl | rfl | rfl | rfl | rfl | rfl | rfl | rfl | rfl | rfl | rfl | rfl | rfl | rfl | rfl | rfl
  · show (28271 : Nat) = cv 463; simp [cv_pos, cv_zero]
  · show (7955827 : Nat) = cv 25779; simp [cv_pos, cv_zero]
  · show (6579558 : Nat) = cv 4262; simp [cv_pos, cv_zero]
  · show (6714734 : Nat) = cv 6830; simp [cv_pos, cv_zero]
  · show (7103860 : Nat) = cv 12468; simp [cv_pos, cv_zero]
  · show (26982 : Nat) = cv 294; simp [cv_pos, cv_zero]
  · show (1667329132 : Nat) = cv 99724; simp [cv_pos, cv_zero]
  · show (1885432178 : Nat) = cv 525618; simp [cv_pos, cv_zero]
  · show (439855772532 : Nat) = cv 6605428; simp [cv_pos, cv_zero]
  · show (126879297138276 : Nat) = cv 642891204; simp [cv_pos, cv_zero]
  · show (7235948 : Nat) = cv 14636; simp [cv_pos, cv_zero]
  · show (1668247155 : Nat) = cv 114131; simp [cv_pos, cv_zero]
  · show (1751474532 : Nat) = cv 267300; simp [cv_pos, cv_zero]
  · show (1952541036 : Nat) = cv 656684; simp [cv_pos, cv_zero]
  · show (6382692 : Nat) = cv 1156; simp [cv_pos, cv_zero]
  · show (1818588019 : Nat) = cv 398963; simp [cv_pos, cv_zero]
  · show (24947 : Nat) = cv 51; simp [cv_pos, cv_zero]
  · show (7239021 : Nat) = cv 15021; simp [cv_pos, cv_zero]
  · show (500136506472 : Nat) = cv 21583496; simp [cv_pos, cv_zero]
  · show (7499639 : Nat) = cv 18935; simp [cv_pos, cv_zero]
  · show (1651471464 : Nat) = cv 81544; simp [cv_pos, cv_zero]
  · show (1718775661 : Nat) = cv 215533; simp [cv_pos, cv_zero]
  · show (6385273 : Nat) = cv 1497; simp [cv_pos, cv_zero]
  · show (26990 : Nat) = cv 302; simp [cv_pos, cv_zero]
theorem kwl_kw : kwl = kw.map Int64.ofNat := rfl
theorem ow_lt : ∀ k : Nat, k < 24 → ow.getD k 0 < 1099511627776 := by
  intro k hk
  have : ∀ j : Fin 24, ow.getD j.val 0 < 1099511627776 := by decide +kernel
  exact this ⟨k, hk⟩
def KPT (p : Int64) : Prop := p ∈ kwl
def KPa (p : Int64) : Prop := p = 6579558 ∨ p = 7955827 ∨ p = 28271 ∨ p = 6714734 ∨ p = 7103860 ∨ p = 26990 ∨ p = 26982 ∨ p = 1667329132
def KPb (p : Int64) : Prop := p = 1885432178 ∨ p = 439855772532 ∨ p = 126879297138276 ∨ p = 7235948 ∨ p = 1668247155 ∨ p = 1751474532 ∨ p = 1952541036 ∨ p = 6382692
def KPc (p : Int64) : Prop := p = 1818588019 ∨ p = 24947 ∨ p = 7239021 ∨ p = 500136506472 ∨ p = 6385273 ∨ p = 7499639 ∨ p = 1651471464 ∨ p = 1718775661
theorem KPT_abc {p : Int64} : KPT p ↔ KPa p ∨ KPb p ∨ KPc p := by
  unfold KPT KPa KPb KPc kwl
  simp only [List.mem_cons, List.not_mem_nil, or_false]
  constructor
  · rintro (h | h | h | h | h | h | h | h | h | h | h | h | h | h | h | h | h | h | h | h | h | h | h | h) <;> simp [h]
  · rintro ((h | h | h | h | h | h | h | h) | (h | h | h | h | h | h | h | h) | (h | h | h | h | h | h | h | h)) <;> simp [h]
theorem x_X11_isKept {s : ST} {p : Int64} {Q : ST → Int → Prop} (h1 : KPT p → Q s 1) (h0 : ¬ KPT p → Q s 0) : C_X11_isKept s p Q := by
  rw [KPT_abc] at h1 h0
  have k139 : ∀ a2 t0, (a2 ≠ 0 ↔ KPa p) → (t0 ≠ 0 ↔ KPb p) → K_X11_isKept_139 s p a2 t0 Q := by
    intro a2 t0 ha hb
    have hc : ∀ c, KPc p → c = (1 : Int) → Q s c := fun c h e => e ▸ h1 (Or.inr (Or.inr h))
    refine s_X11_isKept_139 fun _ _ _ => ⟨fun e => h1 (Or.inl (ha.mp e)), fun e => ⟨fun e2 => h1 (Or.inr (Or.inl (hb.mp e2))), fun e2 => ?_⟩⟩
    have na : ¬ KPa p := fun h => ha.mpr h (Classical.not_not.mp (by simpa using e))
    have nb : ¬ KPb p := fun h => hb.mpr h (Classical.not_not.mp (by simpa using e2))
    (repeat' (with_reducible first | refine ⟨?_, ?_⟩ | intro _))
    all_goals first
      | (refine hc 1 ?_ rfl; unfold KPc; simp [*]; done)
      | (refine h0 ?_; rintro (h | h | h); exact na h; exact nb h; unfold KPc at h; simp_all; done)
  have k134 : ∀ a2, (a2 ≠ 0 ↔ KPa p) → KPb p → K_X11_isKept_134 s p a2 Q := fun a2 ha hb => s_X11_isKept_134 fun _ _ => k139 a2 1 ha ⟨fun _ => hb, fun _ => by decide⟩
  have k69 : ∀ t0, (t0 ≠ 0 ↔ KPa p) → K_X11_isKept_69 s p t0 Q := by
    intro t0 ha
    refine s_X11_isKept_69 fun _ _ => ?_
    (repeat' (with_reducible first | refine ⟨?_, ?_⟩ | intro _))
    all_goals first
      | (refine k134 t0 ha ?_; unfold KPb; simp [*]; done)
      | (refine k139 t0 0 ha ⟨fun h => absurd rfl h, fun h => ?_⟩; unfold KPb at h; simp_all; done)
  have k64 : KPa p → K_X11_isKept_64 s p Q := fun ha => s_X11_isKept_64 fun _ => k69 1 ⟨fun _ => ha, fun _ => by decide⟩
  refine s_X11_isKept fun _ => ?_
  (repeat' (with_reducible first | refine ⟨?_, ?_⟩ | intro _))
  all_goals first
    | (refine k64 ?_; unfold KPa; simp [*]; done)
    | (refine k69 0 ⟨fun h => absurd rfl h, fun h => ?_⟩; unfold KPa at h; simp_all; done)
def RTK (g : Int → Int) (n p : Int) (s : ST) : Prop := ∃ q, SCN g BLK p q ∧ s.1 139 6 = q ∧
  ((n ≤ q ∧ s.1 139 8 = 0 ∧ s.1 139 7 = q) ∨
   (q < n ∧ LTR (g q) ∧ ∃ r, SCN g LTR q r ∧ s.1 139 7 = r ∧ ((r - q ≤ 8 ∧ s.2 139 10 = Int64.ofNat (c256 g q (r - q).toNat) ∧ (KPT (s.2 139 10) → s.1 139 8 = 3) ∧ (¬ KPT (s.2 139 10) → s.1 139 8 = 2)) ∨ (8 < r - q ∧ s.1 139 8 = 1))) ∨
   (q < n ∧ DGT (g q) ∧ ∃ r, SCN g DGT q r ∧ s.1 139 7 = r ∧ ((r - q ≤ 4 ∧ ¬ LTR (g r) ∧ s.1 139 8 = 4) ∨ ((4 < r - q ∨ LTR (g r)) ∧ s.1 139 8 = 1))) ∨
   (q < n ∧ g q = 59 ∧ s.1 139 8 = 5 ∧ s.1 139 7 = q + 1) ∨
   ((q < n ∧ ¬ LTR (g q) ∧ ¬ DGT (g q) ∧ g q ≠ 59) ∧ s.1 139 8 = 1 ∧ s.1 139 7 = q + 1))
theorem rs_md {s0 s : ST} (h : md gF [] s0 s) (z : Int) : F_X11_sign s z = F_X11_sign s0 z := by
  unfold F_X11_sign
  rw [h.f 139 3 (by decide) (by decide), h.c 141 (by decide) (by decide)]
