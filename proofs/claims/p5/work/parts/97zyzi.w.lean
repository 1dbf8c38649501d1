/-! READING ALIKE: the other calls; two new objects -/
section OTH
variable {x m : ST}
theorem IN5.k {x' m' : ST} (h : IN5 x m) (k : KX x x') (l : KP m m') : IN5 x' m' := by
  obtain ⟨h2, h3, h4, h5, h6⟩ := h
  refine ⟨h2.k k l, ?_, ?_, ?_, fun j hj => ?_⟩
  · rw [k.2.2.2.1, h3]; exact l.2.2.2.1.symm
  · rw [k.2.2.2.2.1, h4]; exact l.2.2.2.2.1.symm
  · rw [k.2.2.2.2.1, h5]; exact l.2.2.2.2.2.symm
  · rw [k.2.2.2.2.2]; exact h6 j hj
theorem al_fault {p : Int} {G : ST → Int → ST → Int → Prop} (h : IN5 x m) (hG : ∀ v, G x v m v) : C_X10_fault x p (fun x1 v1 => C_X11_fault m p (fun m2 v2 => G x1 v1 m2 v2)) := by
  refine (w_X10_fault (s := x) (p := p)).mono ?_
  rintro s' v ⟨e, ev⟩
  rw [e]
  refine (w_X11_fault (s := m) (p := p)).mono ?_
  rintro s2 v2 ⟨e2, ev2⟩
  rw [e2]
  have : v2 = v := by
    rw [ev, ev2]
    unfold F_X10_fault F_X11_fault
    rw [h.2.2.1, h.2.2.2.1]
  rw [this]; exact hG v
theorem W47.sm {x x' : ST} (h : W47 x) (s : SM x x') : W47 x' := fun j hj => by rw [s.2]; exact h j hj
theorem al_feed {p q u w y : Int} {G : ST → Int → ST → Int → Prop} (h : IN5 x m) (hG : ∀ x1 m2 v, IN5 x1 m2 → G x1 v m2 v) : C_X10_feed x p q u w y (fun x1 v1 => C_X11_feed m p q u w y (fun m2 v2 => G x1 v1 m2 v2)) := by
  obtain ⟨⟨h1, h2, h3, h4⟩, h5, h6, h7, h8⟩ := id h
  refine i_X10_feed h1 (fun g x1 a e2 e1 eb eo sm => i_X11_feed h2 (fun g' m2 b f2 f1 fb fo fm => ?_) (fun g' => ?_)) (fun g => i_X11_feed h2 (fun g' m2 b f2 f1 _ _ _ => ?_) (fun g' => ?_))
  · rw [h3]
    refine hG x1 m2 _ ⟨⟨a, b, by omega, by omega⟩, funext fun i => ?_, ?_, ?_, h8.sm sm⟩
    · by_cases c : m.1 139 2 ≤ i ∧ i < m.1 139 2 + 20
      · have q1 := eb (i - m.1 139 2) (by omega) (by omega)
        have q2 := fb (i - m.1 139 2) (by omega) (by omega)
        rw [h3, show m.1 139 2 + (i - m.1 139 2) = i by omega] at q1
        rw [show m.1 139 2 + (i - m.1 139 2) = i by omega] at q2
        rw [q1, q2]
      · rw [eo i (by omega), fo i (by omega), h5]
    · rw [sm.1, h6]; exact fm.1.symm
    · rw [sm.1, h7]; exact fm.2.symm
  · exfalso; omega
  · exfalso; omega
  · exact hG x m _ h
theorem al_end {p : Int} {G : ST → Int → ST → Int → Prop} (h : IN5 x m) (hG : ∀ x1 m2 v, IN5 x1 m2 → G x1 v m2 v) : C_X10_end x p (fun x1 v1 => C_X11_end m p (fun m2 v2 => G x1 v1 m2 v2)) := by
  obtain ⟨⟨h1, h2, h3, h4⟩, h5, h6, h7, h8⟩ := id h
  refine i_X10_end h1 fun x1 v1 a e2 e3 c1 => i_X11_end h2 fun m2 v2 b f2 f3 c2 => ?_
  have ev : v1 = v2 := by omega
  rw [ev]
  refine hG x1 m2 v2 ⟨⟨a, b, by omega, by omega⟩, ?_, ?_, ?_, h8.sm e3.2⟩
  · rw [e3.1, h5]; exact f3.1.symm
  · rw [e3.2.1, h6]; exact f3.2.1.symm
  · rw [e3.2.1, h7]; exact f3.2.2.symm
theorem al_later {p : Int} {G : ST → Int → ST → Int → Prop} (h : IN5 x m) (hG : ∀ x1 m2 v, IN5 x1 m2 → G x1 v m2 v) : C_X10_later x p (fun x1 v1 => C_X11_later m p (fun m2 v2 => G x1 v1 m2 v2)) := by
  obtain ⟨⟨h1, h2, h3, h4⟩, h5, h6, h7, h8⟩ := id h
  refine i_X10_later h1 fun x1 v1 a e1 e3 c1 => i_X11_later h2 fun m2 v2 b f1 f3 c2 => ?_
  have ev : v1 = v2 := by omega
  rw [ev]
  refine hG x1 m2 v2 ⟨⟨a, b, by omega, by omega⟩, ?_, ?_, ?_, h8.sm e3.2⟩
  · rw [e3.1, h5]; exact f3.1.symm
  · rw [e3.2.1, h6]; exact f3.2.1.symm
  · rw [e3.2.1, h7]; exact f3.2.2.symm
theorem nw_4 : nw.1 139 4 = 0 := by decide +kernel
theorem nw_5 : nw.1 139 5 = -1 := by decide +kernel
theorem nw_46 : nw.1 46 0 = 0 ∧ nw.1 46 1 = -1 := by decide +kernel
theorem zI6_140 {c k : Nat} (h : c = 1 ∨ c = 140) : zI6 c k = 0 := by
  unfold zI6 zI5 zI4 zI3 zI2 zI1 zI0
  simp (disch := omega) only [q_up_cell]
theorem nw_tape : nw.1 1 = nw.1 140 := by
  funext z
  show (zI6 1 z.toNat).toInt = (zI6 140 z.toNat).toInt
  rw [zI6_140 (Or.inl rfl), zI6_140 (Or.inr rfl)]
theorem zJ1_47 : ∀ k : Fin 24, zJ1 47 k.val = Int64.ofNat (ow.getD k.val 0) := by decide +kernel
theorem nw_snd (a : Nat) (b : Int) : nw.2 a b = zJ1 a b.toNat := by
  simp only [nw]
theorem nw_W47 : W47 nw := fun k hk => by
  rw [nw_snd, Int.toNat_natCast]
  exact zJ1_47 ⟨k, hk⟩
theorem nw_IN5 : IN5 nw nw := ⟨nw_IN2, nw_tape, by rw [nw_46.1, nw_4], by rw [nw_46.2, nw_5], nw_W47⟩
end OTH
