/-! READING ALIKE: sorts and kinds -/
section SORT
variable {x m : ST}
theorem sort_alike (h : OKR x m) : F_X7_sortHere x = F_X11_sortHere m := by
  obtain ⟨_, _, ⟨_, _, ht⟩, _⟩ := h
  unfold F_X7_sortHere F_X11_sortHere
  rcases ht with ⟨h1, h2⟩ | ⟨h1, h2⟩ | ⟨h1, h2⟩ | ⟨h1, h2⟩ | ⟨h1, h2, h3, h4⟩ | ⟨h1, k, hk, h9, h8, h10, h11⟩
  · rw [h1, h2]; rfl
  · rw [h1, h2]; rfl
  · rw [h1, h2]; rfl
  · rw [h1, h2]; rfl
  · rw [h1, h2, h3]; rfl
  · rw [h1, h9, h8, h10]
    have key : ∀ j : Fin 24, ((if (1 : Int) = 2 then 0 else (if (1 : Int) = 1 then (if ((j.val : Nat) : Int) = (-1) then 2 else (if 1 < ((j.val : Nat) : Int) then (if ((j.val : Nat) : Int) < 3 then (-1) else (if 16 < ((j.val : Nat) : Int) then (-1) else ((j.val : Nat) : Int))) else 1)) else (-1))) : Int) = ((if (3 : Int) = 4 then 0 else (if (3 : Int) = 2 then 2 else (if (3 : Int) = 3 then (if (Int64.ofNat (kw.getD j.val 0)) = 7955827 then 1 else (if (Int64.ofNat (kw.getD j.val 0)) = 28271 then 1 else (if (Int64.ofNat (kw.getD j.val 0)) = 6714734 then 3 else (if (Int64.ofNat (kw.getD j.val 0)) = 7103860 then 4 else (if (Int64.ofNat (kw.getD j.val 0)) = 26982 then 5 else (if (Int64.ofNat (kw.getD j.val 0)) = 1667329132 then 6 else (if (Int64.ofNat (kw.getD j.val 0)) = 1885432178 then 7 else (if (Int64.ofNat (kw.getD j.val 0)) = 439855772532 then 8 else (if (Int64.ofNat (kw.getD j.val 0)) = 126879297138276 then 9 else (if (Int64.ofNat (kw.getD j.val 0)) = 7235948 then 10 else (if (Int64.ofNat (kw.getD j.val 0)) = 1668247155 then 11 else (if (Int64.ofNat (kw.getD j.val 0)) = 1751474532 then 12 else (if (Int64.ofNat (kw.getD j.val 0)) = 1952541036 then 13 else (if (Int64.ofNat (kw.getD j.val 0)) = 6382692 then 14 else (if (Int64.ofNat (kw.getD j.val 0)) = 1818588019 then 15 else (if (Int64.ofNat (kw.getD j.val 0)) = 24947 then 16 else (-1))))))))))))))))) else (-1)))) : Int) := by decide +kernel
    exact key ⟨k, hk⟩
def KDX (x : ST) : Int := if x.1 46 5 = 1 then x.1 46 9 - 17 else -1
theorem kind_alike (h : OKR x m) : (F_X11_kindHere m < 0 ∧ (KDX x < 0 ∨ 5 < KDX x)) ∨ (0 ≤ F_X11_kindHere m ∧ (0 ≤ KDX x ∧ KDX x ≤ 5) ∧ ∀ s, F_X10_kindArity s (KDX x) - 1 = (if F_X11_kindHere m < 3 then -1 else if F_X11_kindHere m = 3 then 0 else 1)) := by
  obtain ⟨_, _, ⟨_, _, ht⟩, _⟩ := h
  unfold KDX
  have nk : m.1 139 8 ≠ 3 → F_X11_kindHere m = -1 := fun h8 => by
    unfold F_X11_kindHere
    rw [if_neg fun e => h8 e.1, if_neg fun e => h8 e.1, if_neg fun e => h8 e.1, if_neg fun e => h8 e.1, if_neg fun e => h8 e.1, if_neg fun e => h8 e.1]
  rcases ht with ⟨h1, h2⟩ | ⟨h1, h2⟩ | ⟨h1, h2⟩ | ⟨h1, h2⟩ | ⟨h1, h2, h3, h4⟩ | ⟨h1, k, hk, h9, h8, h10, h11⟩
  · exact Or.inl ⟨by rw [nk (by omega)]; decide, Or.inl (by rw [if_neg (by omega)]; decide)⟩
  · exact Or.inl ⟨by rw [nk (by omega)]; decide, Or.inl (by rw [if_neg (by omega)]; decide)⟩
  · exact Or.inl ⟨by rw [nk (by omega)]; decide, Or.inl (by rw [if_neg (by omega)]; decide)⟩
  · exact Or.inl ⟨by rw [nk (by omega)]; decide, Or.inl (by rw [if_neg (by omega)]; decide)⟩
  · exact Or.inl ⟨by rw [nk (by omega)]; decide, Or.inl (by rw [if_pos h1]; omega)⟩
  · rw [if_pos h1, h9]
    have e : F_X11_kindHere m = (if (Int64.ofNat (kw.getD k 0)) = 7239021 then 0 else (if (Int64.ofNat (kw.getD k 0)) = 500136506472 then 1 else (if (Int64.ofNat (kw.getD k 0)) = 6385273 then 2 else (if (Int64.ofNat (kw.getD k 0)) = 7499639 then 3 else (if (Int64.ofNat (kw.getD k 0)) = 1651471464 then 4 else (if (Int64.ofNat (kw.getD k 0)) = 1718775661 then 5 else (-1))))))) := by
      unfold F_X11_kindHere
      rw [h8, h10]
      simp only [true_and]
    rw [e]
    unfold F_X10_kindArity
    clear e h11 h10 h8 h9 nk
    have key : ∀ j : Fin 24, ((if (Int64.ofNat (kw.getD j.val 0)) = 7239021 then (0 : Int) else (if (Int64.ofNat (kw.getD j.val 0)) = 500136506472 then 1 else (if (Int64.ofNat (kw.getD j.val 0)) = 6385273 then 2 else (if (Int64.ofNat (kw.getD j.val 0)) = 7499639 then 3 else (if (Int64.ofNat (kw.getD j.val 0)) = 1651471464 then 4 else (if (Int64.ofNat (kw.getD j.val 0)) = 1718775661 then 5 else (-1))))))) < 0 ∧ (((j.val : Nat) : Int) - 17 < 0 ∨ 5 < ((j.val : Nat) : Int) - 17)) ∨ (0 ≤ (if (Int64.ofNat (kw.getD j.val 0)) = 7239021 then (0 : Int) else (if (Int64.ofNat (kw.getD j.val 0)) = 500136506472 then 1 else (if (Int64.ofNat (kw.getD j.val 0)) = 6385273 then 2 else (if (Int64.ofNat (kw.getD j.val 0)) = 7499639 then 3 else (if (Int64.ofNat (kw.getD j.val 0)) = 1651471464 then 4 else (if (Int64.ofNat (kw.getD j.val 0)) = 1718775661 then 5 else (-1))))))) ∧ (0 ≤ ((j.val : Nat) : Int) - 17 ∧ ((j.val : Nat) : Int) - 17 ≤ 5) ∧ (if ((j.val : Nat) : Int) - 17 < 0 then 0 else if 6 ≤ ((j.val : Nat) : Int) - 17 then 0 else zkarity (((j.val : Nat) : Int) - 17)) - 1 = (if (if (Int64.ofNat (kw.getD j.val 0)) = 7239021 then (0 : Int) else (if (Int64.ofNat (kw.getD j.val 0)) = 500136506472 then 1 else (if (Int64.ofNat (kw.getD j.val 0)) = 6385273 then 2 else (if (Int64.ofNat (kw.getD j.val 0)) = 7499639 then 3 else (if (Int64.ofNat (kw.getD j.val 0)) = 1651471464 then 4 else (if (Int64.ofNat (kw.getD j.val 0)) = 1718775661 then 5 else (-1))))))) < 3 then -1 else if (if (Int64.ofNat (kw.getD j.val 0)) = 7239021 then (0 : Int) else (if (Int64.ofNat (kw.getD j.val 0)) = 500136506472 then 1 else (if (Int64.ofNat (kw.getD j.val 0)) = 6385273 then 2 else (if (Int64.ofNat (kw.getD j.val 0)) = 7499639 then 3 else (if (Int64.ofNat (kw.getD j.val 0)) = 1651471464 then 4 else (if (Int64.ofNat (kw.getD j.val 0)) = 1718775661 then 5 else (-1))))))) = 3 then 0 else 1)) := by decide +kernel
    rcases key ⟨k, hk⟩ with a | ⟨a, b, c⟩
    · exact Or.inl a
    · exact Or.inr ⟨a, b, fun _ => c⟩
end SORT
