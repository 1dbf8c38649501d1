/-! THE ABSTRACT MACHINE, second part: cells, arrays, statics, ends, calls, switches, constants. -/
def q_up {α : Type} (f : Nat → Nat → α) (i k : Nat) (x : α) : Nat → Nat → α := fun a b => if a = i ∧ b = k then x else f a b
theorem q_up_same {α : Type} {f : Nat → Nat → α} {i k : Nat} {x : α} : q_up f i k x i k = x := by simp [q_up]
theorem q_up_cell {α : Type} {f : Nat → Nat → α} {i k : Nat} {x : α} {a b : Nat} (h : a ≠ i) : q_up f i k x a b = f a b := by simp [q_up, h]
theorem q_up_ne {α : Type} {f : Nat → Nat → α} {i k : Nat} {x : α} {a b : Nat} (h : b ≠ k) : q_up f i k x a b = f a b := by simp [q_up, h]
def q_ui (s : q_S) (i k : Nat) (x : Int32) : q_S := (q_up s.1 i k x, s.2)
def q_uj (s : q_S) (i k : Nat) (x : Int64) : q_S := (s.1, q_up s.2.1 i k x, s.2.2)
def q_ur (s : q_S) (i k : Nat) (x : Option Nat) : q_S := (s.1, s.2.1, q_up s.2.2.1 i k x, s.2.2.2)
theorem q_cl (c : Nat) (h : c < 12) : vwCl[c]? = some (q_R c, q_T c, q_N c) := by
  match c, h with
  | 0, _ => rfl
  | 1, _ => rfl
  | 2, _ => rfl
  | 3, _ => rfl
  | 4, _ => rfl
  | 5, _ => rfl
  | 6, _ => rfl
  | 7, _ => rfl
  | 8, _ => rfl
  | 9, _ => rfl
  | 10, _ => rfl
  | 11, _ => rfl
theorem q_gtm {w : Cond} (h : w ∈ tables_1) (g : goodWord w = true) : w ∈ q_gt := List.mem_filter.mpr ⟨List.mem_append_right _ h, g⟩
theorem q_subT (ws : List Cond) (ps : List Nat) (hp : ws = ps.filterMap (fun i => tables_1[i]?)) (h : ws.all goodWord = true) : ∀ w ∈ ws, w ∈ q_gt := by
  intro w hw
  have h1 := List.all_eq_true.mp h w hw
  rw [hp] at hw
  obtain ⟨i, -, hi⟩ := List.mem_filterMap.mp hw
  exact q_gtm (List.mem_of_getElem? hi) h1
set_option maxRecDepth 100000 in
theorem q_inX0 : ∀ w ∈ u_ws RX0 TX0 16, w ∈ q_gt := q_subT _ [327, 329, 331, 333, 335, 337, 339, 341, 343, 345, 347, 349, 351, 353, 355, 357] (by decide +kernel) (by decide +kernel)
set_option maxRecDepth 100000 in
theorem q_inX1 : ∀ w ∈ u_ws RX1 TX1 13, w ∈ q_gt := q_subT _ [408, 410, 412, 414, 416, 418, 420, 422, 424, 426, 428, 430, 432] (by decide +kernel) (by decide +kernel)
set_option maxRecDepth 100000 in
theorem q_inX2 : ∀ w ∈ u_ws RX2 TX2 7, w ∈ q_gt := q_subT _ [141, 143, 145, 147, 149, 151, 153] (by decide +kernel) (by decide +kernel)
set_option maxRecDepth 100000 in
theorem q_inX3 : ∀ w ∈ u_ws RX3 TX3 8, w ∈ q_gt := q_subT _ [454, 456, 458, 460, 462, 464, 466, 468] (by decide +kernel) (by decide +kernel)
set_option maxRecDepth 100000 in
theorem q_inX4 : ∀ w ∈ u_ws RX4 TX4 10, w ∈ q_gt := q_subT _ [174, 176, 178, 180, 182, 184, 186, 188, 190, 192] (by decide +kernel) (by decide +kernel)
set_option maxRecDepth 100000 in
theorem q_inX5 : ∀ w ∈ u_ws RX5 TX5 6, w ∈ q_gt := q_subT _ [375, 377, 379, 381, 383, 385] (by decide +kernel) (by decide +kernel)
set_option maxRecDepth 100000 in
theorem q_inX6 : ∀ w ∈ u_ws RX6 TX6 15, w ∈ q_gt := q_subT _ [495, 497, 499, 501, 503, 505, 507, 509, 511, 513, 515, 517, 519, 521, 523] (by decide +kernel) (by decide +kernel)
set_option maxRecDepth 100000 in
theorem q_inX7 : ∀ w ∈ u_ws RX7 TX7 15, w ∈ q_gt := q_subT _ [271, 273, 275, 277, 279, 281, 283, 285, 287, 289, 291, 293, 295, 297, 299] (by decide +kernel) (by decide +kernel)
set_option maxRecDepth 100000 in
theorem q_inX8 : ∀ w ∈ u_ws RX8 TX8 4, w ∈ q_gt := q_subT _ [537, 539, 541, 543] (by decide +kernel) (by decide +kernel)
set_option maxRecDepth 100000 in
theorem q_inX9 : ∀ w ∈ u_ws RX9 TX9 17, w ∈ q_gt := q_subT _ [86, 88, 90, 92, 94, 96, 98, 100, 102, 104, 106, 108, 110, 112, 114, 116, 118] (by decide +kernel) (by decide +kernel)
set_option maxRecDepth 100000 in
theorem q_inX10 : ∀ w ∈ u_ws RX10 TX10 16, w ∈ q_gt := q_subT _ [563, 565, 567, 569, 571, 573, 575, 577, 579, 581, 583, 585, 587, 589, 591, 593] (by decide +kernel) (by decide +kernel)
set_option maxRecDepth 100000 in
theorem q_inX11 : ∀ w ∈ u_ws RX11 TX11 98, w ∈ q_gt := q_subT _ [1377, 1379, 1381, 1383, 1385, 1387, 1389, 1391, 1393, 1395, 1397, 1399, 1401, 1403, 1405, 1407, 1409, 1411, 1413, 1415, 1417, 1419, 1421, 1423, 1425, 1427, 1429, 1431, 1433, 1435, 1437, 1439, 1441, 1443, 1445, 1447, 1449, 1451, 1453, 1455, 1457, 1459, 1461, 1463, 1465, 1467, 1469, 1471, 1473, 1475, 1477, 1479, 1481, 1483, 1485, 1487, 1489, 1491, 1493, 1495, 1497, 1499, 1501, 1503, 1505, 1507, 1509, 1511, 1513, 1515, 1517, 1519, 1521, 1523, 1525, 1527, 1529, 1531, 1533, 1535, 1537, 1539, 1541, 1543, 1545, 1547, 1549, 1551, 1553, 1555, 1557, 1559, 1561, 1563, 1565, 1567, 1569, 1571] (by decide +kernel) (by decide +kernel)
theorem q_inC (c : Nat) (h : c < 12) : ∀ w ∈ u_ws (q_R c) (q_T c) (q_N c), w ∈ q_gt := by
  match c, h with
  | 0, _ => exact q_inX0
  | 1, _ => exact q_inX1
  | 2, _ => exact q_inX2
  | 3, _ => exact q_inX3
  | 4, _ => exact q_inX4
  | 5, _ => exact q_inX5
  | 6, _ => exact q_inX6
  | 7, _ => exact q_inX7
  | 8, _ => exact q_inX8
  | 9, _ => exact q_inX9
  | 10, _ => exact q_inX10
  | 11, _ => exact q_inX11
theorem q_tyok : ∀ c, c < 12 → ∀ k, k < q_N c → parseFieldDescriptor (q_T c k).2.2.1 = some (q_ty c k) := by decide +kernel
theorem q_nm : ∀ c, c < 12 → ∀ a, a < q_N c → ∀ b, b < q_N c → a ≠ b → (q_T c a).2.1 ≠ (q_T c b).2.1 := by
  intro c h
  match c, h with
  | 0, _ => exact nmX0
  | 1, _ => exact nmX1
  | 2, _ => exact nmX2
  | 3, _ => exact nmX3
  | 4, _ => exact nmX4
  | 5, _ => exact nmX5
  | 6, _ => exact nmX6
  | 7, _ => exact nmX7
  | 8, _ => exact nmX8
  | 9, _ => exact nmX9
  | 10, _ => exact nmX10
  | 11, _ => exact nmX11
theorem q_gt_in {w : Cond} (h : w ∈ q_gt) : w ∈ q_gt := h
theorem q_inM (_ : q_M) (c : Nat) (h : c < 12) : ∀ w ∈ u_ws (q_R c) (q_T c) (q_N c), w ∈ q_gt := fun w hw => q_inC c h w hw
theorem q_cell_o {ε : q_E} {s : q_S} {i c n : Nat} (h : c < 12) : q_cell ε s i (c, n) = .inr (c, q_f ε s i c) := by
  match c, h with
  | 0, _ => rfl
  | 1, _ => rfl
  | 2, _ => rfl
  | 3, _ => rfl
  | 4, _ => rfl
  | 5, _ => rfl
  | 6, _ => rfl
  | 7, _ => rfl
  | 8, _ => rfl
  | 9, _ => rfl
  | 10, _ => rfl
  | 11, _ => rfl
theorem q_cell_eq {ε : q_E} {s s' : q_S} {j : Nat} {u : Nat × Nat} (h1 : ∀ b, s'.1 j b = s.1 j b) (h2 : ∀ b, s'.2.1 j b = s.2.1 j b) (h3 : ∀ b, s'.2.2.1 j b = s.2.2.1 j b) : q_cell ε s' j u = q_cell ε s j u := by
  have e1 : s'.1 j = s.1 j := funext h1
  have e2 : s'.2.1 j = s.2.1 j := funext h2
  have e3 : s'.2.2.1 j = s.2.2.1 j := funext h3
  have e4 : ∀ k ty, q_fv ε s' j k ty = q_fv ε s j k ty := fun k ty => by cases ty <;> simp [q_fv, e1, e2, e3]
  simp only [q_cell, q_f, e1, e2, e3, e4]
theorem q_ad_lt {ε : q_E} {i : Nat} (h : i < 1000) : q_ad ε i = ε.2.2.1 + i := if_pos h
theorem q_get? {ε : q_E} {s : q_S} {i : Nat} : (q_w ε s)[i]? = (s.2.2.2[i]?).map fun t => (ε.2.2.1 + i, q_cell ε s i t) := by simp [q_w]
theorem q_W.i {ε : q_E} {s : q_S} {H : Heap} {i : Nat} {t : Nat × Nat} (h : q_W ε s H) (hi : s.2.2.2[i]? = some t) : i < 1000 ∧ q_ad ε i = ε.2.2.1 + i := by
  have h1 := (List.getElem?_eq_some_iff.mp hi).1
  have h2 := h.2.1
  exact ⟨by omega, q_ad_lt (by omega)⟩
theorem q_W.at {ε : q_E} {s : q_S} {H : Heap} {i : Nat} {t : Nat × Nat} (h : q_W ε s H) (hi : s.2.2.2[i]? = some t) (hn : t.1 ≠ 50) : va_at ε.1 vwCl (q_ad ε i, q_cell ε s i t) H := by
  rw [(h.i hi).2]
  exact h.2.2 i t hi hn
theorem q_one {D : va_G} {q : Nat × va_E} {H : Heap} (h : va_at D vwCl q H) : va_P D vwCl [q] H := by
  intro k x hx
  match k, hx with
  | 0, hx => cases hx; exact h
  | k + 1, hx => simp at hx
theorem q_W.upd {ε : q_E} {s s' : q_S} {H0 H H1 : Heap} {locs : List Loc} {A : Nat → Prop} {i kk : Nat} {t : Nat × Nat} (hW : q_W ε s H) (hA : q_sees ε s A) (hS : va_S A H0 H locs) (hi : s.2.2.2[i]? = some t) (hn : t.1 ≠ 50) (hlay : s'.2.2.2 = s.2.2.2)
    (hoth : ∀ j u, j ≠ i → q_cell ε s' j u = q_cell ε s j u) (hc : va_at ε.1 vwCl (q_ad ε i, q_cell ε s' i t) H1) (z : H1.size = H.size) (oq : ∀ q : Nat, q ≠ q_ad ε i → H1[q]? = H[q]?) :
    q_W ε s' H1 ∧ va_S A H0 H1 (locs ++ [⟨q_ad ε i, kk⟩]) := by
  have hi2 := (hW.i hi).2
  refine ⟨⟨by rw [z, hlay]; exact hW.1, by rw [hlay]; exact hW.2.1, fun j q hq hq5 => ?_⟩, hS.put z oq (by rw [hi2]; exact hA i t hi hn)⟩
  rw [hlay] at hq
  by_cases hj : j = i
  · subst hj
    rw [hi] at hq
    cases hq
    rw [← hi2]
    exact hc
  · show va_at ε.1 vwCl (ε.2.2.1 + j, q_cell ε s' j q) H1
    rw [hoth j q hj]
    have h1 := hW.2.2 j q hq hq5
    exact h1.kept (oq _ (by rw [hi2]; intro h; exact hj (by have h : ε.2.2.1 + j = ε.2.2.1 + i := h; omega)))
theorem q_f_at {ε : q_E} {s : q_S} {i c k : Nat} (hk : k < q_N c) : (q_f ε s i c)[k]? = some (q_c ε (q_av s i k (q_ty c k))) := by
  simp only [q_f, List.getElem?_map, List.getElem?_range hk, Option.map_some, q_fv_c]
theorem q_f_len {ε : q_E} {s : q_S} {i c : Nat} : (q_f ε s i c).length = q_N c := by simp [q_f]
theorem q_f_set {ε : q_E} {s s' : q_S} {i c k : Nat} {v : Value} (h0 : ∀ j, j ≠ k → q_fv ε s' i j (q_ty c j) = q_fv ε s i j (q_ty c j)) (h1 : q_fv ε s' i k (q_ty c k) = v) : q_f ε s' i c = (q_f ε s i c).set k v := by
  apply List.ext_getElem?
  intro j
  by_cases hj : j < q_N c
  · by_cases e : j = k
    · subst e
      rw [List.getElem?_set_self (by rw [q_f_len]; exact hj)]
      simp only [q_f, List.getElem?_map, List.getElem?_range hj, Option.map_some, h1]
    · rw [List.getElem?_set_ne (Ne.symm e)]
      simp only [q_f, List.getElem?_map, List.getElem?_range hj, Option.map_some, h0 j e]
  · rw [List.getElem?_eq_none (by rw [q_f_len]; omega), List.getElem?_eq_none (by rw [List.length_set, q_f_len]; omega)]
section QH
variable {M : q_M} {σ : q_S} {kc ks pc : Nat} {lv : List (Nat × Value)} {st : List Value} {Q : q_F}
/-- getfield -/
theorem q_getf {c n i k idx : Nat} {v : Value} (hd : decode M.1.2.1 pc = .ok (.getfield idx, 3)) (hi : σ.2.2.2[i]? = some (c, n)) (hc : c < 12) (hk : k < q_N c) (hlink : Cond.fieldLink M.1.1.cls idx (q_T c k).1 (q_T c k).2.1 (q_T c k).2.2.1 ∈ q_gt)
    (hv : q_av σ i k (q_ty c k) = v) (kk : q_K M σ kc ks (pc + 3) lv (v :: st) Q) : q_K M σ kc ks pc lv (.ref i :: st) Q := by
  intro p l ε e s m args below meth c0 H locs ls A C hA hW hS hl
  obtain ⟨hx, hb, hml, hr, hts, hown, hlk, hnm, hAm, hb0⟩ := id C
  have ha := hW.at hi (by show c ≠ 50; omega)
  rw [q_cell_o hc] at ha
  exact va_get (D := ε.1) (cl := vwCl) (own := M.1.1.cls) (ref := (q_T c k).1) hx hb hts (q_inM M c hc) hown hAm.1 (q_one ha) 0 rfl (q_cl c hc) k hk (hts _ (q_gt_in hlink)) (fun _ h => h) (v := q_c ε v) (by rw [q_f_at hk, hv]) hd
    (kk p l ε e s m args below meth c0 H locs ls A C hA hW hS hl)
/-- putfield, of a field that isn't final -/
theorem q_put {c n i k idx : Nat} {v : Value} {σ' : q_S} (hd : decode M.1.2.1 pc = .ok (.putfield idx, 3)) (hi : σ.2.2.2[i]? = some (c, n)) (hc : c < 12) (hk : k < q_N c) (hlink : Cond.fieldLink M.1.1.cls idx (q_T c k).1 (q_T c k).2.1 (q_T c k).2.2.1 ∈ q_gt) (hfin : (q_T c k).2.2.2 = false)
    (hn : ∀ ε, narrow (q_ty c k) (q_c ε v) = q_c ε v) (hf : ∀ ε, fits (q_ty c k) (q_c ε v) = true) (hlay : σ'.2.2.2 = σ.2.2.2) (hoth : ∀ ε j u, j ≠ i → q_cell ε σ' j u = q_cell ε σ j u) (hnew : ∀ ε, q_f ε σ' i c = (q_f ε σ i c).set k (q_c ε v))
    (kk : q_K M σ' kc ks (pc + 3) lv st Q) : q_K M σ kc ks pc lv (v :: .ref i :: st) Q := by
  intro p l ε e s m args below meth c0 H locs ls A C hA hW hS hl
  obtain ⟨hx, hb, hml, hr, hts, hown, hlk, hnm, hAm, hb0⟩ := id C
  have hin := q_inM M c hc
  have ha := hW.at hi (by show c ≠ 50; omega)
  rw [q_cell_o hc] at ha
  have hap := va_apart (own := M.1.1.cls) hts hin (q_ty c) (q_tyok c hc) (q_nm c hc) hAm.1 (q_cl c hc)
  obtain ⟨r, h1, cell, q1, q2, q3, q4⟩ := ha
  have hr : r = (q_R c, q_T c, q_N c) := Option.some.inj (h1.symm.trans (q_cl c hc))
  subst hr
  obtain ⟨hSl, hfc, kC, hkC, hkind⟩ := hAm.1.1 c _ (q_cl c hc)
  obtain ⟨cf, kf, fi, f, hfi, hsl⟩ := hSl k hk
  have hlayw := hts _ (hin _ (u_in_lay hk))
  unfold u_lay at hlayw
  rw [if_neg (by rw [hfin]; decide)] at hlayw
  have hst := (u_facts hfc hkC (u_lays hts hin hk) hfi).1
  have h6 := u_store hfc hkC hkind hlayw hfi (q_tyok c hc k hk) (hn ε) (hf ε)
  refine W.putK hx hb (f := f) ⟨hown, hts _ (q_gt_in hlink), ⟨_, _, _, hfi⟩, hst⟩ (by rw [q2]; exact h6) q1 q3 (by rw [hsl]; exact k2_hasslot (q4 k hk)) rfl rfl hd fun H' e1 e2 e3 => ?_
  rw [hsl] at e1
  obtain ⟨w1, w2⟩ := hW.upd (s' := σ') (kk := f.slot) hA.1 hS hi (by show c ≠ 50; omega) hlay (hoth ε) (by
    rw [q_cell_o hc, hnew ε]
    exact ⟨_, q_cl c hc, t_OB.to (V := updV (vp_V (q_f ε σ i c)) k (q_c ε v)) ⟨_, e1, q2, q3, t_set q4 hap hk (q_c ε v)⟩ (fun j _ => vp_updV_set (by rw [q_f_len]; exact hk) (q_c ε v) j)⟩) e2 e3
  exact kk p l ε e s m args below meth c0 H' _ ls A C ⟨fun i t hi => hA.1 i t (by rw [← hlay]; exact hi), hA.2⟩ w1 w2 hl
/-- putfield of a final field, in a constructor -/
theorem q_putF {c n i k idx : Nat} {v : Value} {σ' : q_S} (hd : decode M.1.2.1 pc = .ok (.putfield idx, 3)) (hi : σ.2.2.2[i]? = some (c, n)) (hc : c < 12) (hk : k < q_N c) (hlink : Cond.fieldLink M.1.1.cls idx (q_T c k).1 (q_T c k).2.1 (q_T c k).2.2.1 ∈ q_gt) (hfin : (q_T c k).2.2.2 = true) (hini : M.1.1.name = "<init>") (hdecl : (q_T c k).1 = M.1.1.cls)
    (hn : ∀ ε, narrow (q_ty c k) (q_c ε v) = q_c ε v) (hf : ∀ ε, fits (q_ty c k) (q_c ε v) = true) (hlay : σ'.2.2.2 = σ.2.2.2) (hoth : ∀ ε j u, j ≠ i → q_cell ε σ' j u = q_cell ε σ j u) (hnew : ∀ ε, q_f ε σ' i c = (q_f ε σ i c).set k (q_c ε v))
    (kk : q_K M σ' kc ks (pc + 3) lv st Q) : q_K M σ kc ks pc lv (v :: .ref i :: st) Q := by
  intro p l ε e s m args below meth c0 H locs ls A C hA hW hS hl
  obtain ⟨hx, hb, hml, hr, hts, hown, hlk, hnm, hAm, hb0⟩ := id C
  have hin := q_inM M c hc
  have ha := hW.at hi (by show c ≠ 50; omega)
  rw [q_cell_o hc] at ha
  have hap := va_apart (own := M.1.1.cls) hts hin (q_ty c) (q_tyok c hc) (q_nm c hc) hAm.1 (q_cl c hc)
  obtain ⟨r, h1, cell, q1, q2, q3, q4⟩ := ha
  have hr : r = (q_R c, q_T c, q_N c) := Option.some.inj (h1.symm.trans (q_cl c hc))
  subst hr
  obtain ⟨hSl, hfc, kC, hkC, hkind⟩ := hAm.1.1 c _ (q_cl c hc)
  obtain ⟨cf, kf, fi, f, hfi, hsl⟩ := hSl k hk
  have hlayw := hts _ (hin _ (u_in_lay hk))
  unfold u_lay at hlayw
  rw [if_pos hfin] at hlayw
  have hst := (u_facts hfc hkC (u_lays hts hin hk) hfi).1
  have hcf : m.cls = cf := by
    obtain ⟨_, _, c', _, _, _, -, -, hf', -, -, -, hown2, -⟩ := Cond.laysFinal_spec hlayw
    have e1 : c' = cf := by have := hfi.symm.trans hf'; simp at this; exact this.1.symm
    rw [hdecl] at hown2
    rw [← e1]; exact Option.some.inj (hown.symm.trans hown2)
  have h6 := u_fits hfc hkC hkind (Or.inr hlayw) hfi (q_tyok c hc k hk) (hn ε) (hf ε)
  refine W.putFinK hx hb hown (hts _ (q_gt_in hlink)) hfi hst hcf (hnm hini) (by rw [q2]; exact h6) q1 q3 (by rw [hsl]; exact k2_hasslot (q4 k hk)) rfl rfl hd fun H' e1 e2 e3 => ?_
  rw [hsl] at e1
  obtain ⟨w1, w2⟩ := hW.upd (s' := σ') (kk := f.slot) hA.1 hS hi (by show c ≠ 50; omega) hlay (hoth ε) (by
    rw [q_cell_o hc, hnew ε]
    exact ⟨_, q_cl c hc, t_OB.to (V := updV (vp_V (q_f ε σ i c)) k (q_c ε v)) ⟨_, e1, q2, q3, t_set q4 hap hk (q_c ε v)⟩ (fun j _ => vp_updV_set (by rw [q_f_len]; exact hk) (q_c ε v) j)⟩) e2 e3
  exact kk p l ε e s m args below meth c0 H' _ ls A C ⟨fun i t hi => hA.1 i t (by rw [← hlay]; exact hi), hA.2⟩ w1 w2 hl
theorem q_oth_i {i k : Nat} {x : Int32} : ∀ (ε : q_E) (j : Nat) (u : Nat × Nat), j ≠ i → q_cell ε (q_ui σ i k x) j u = q_cell ε σ j u := fun _ _ _ h => q_cell_eq (fun _ => q_up_cell h) (fun _ => rfl) (fun _ => rfl)
theorem q_oth_j {i k : Nat} {x : Int64} : ∀ (ε : q_E) (j : Nat) (u : Nat × Nat), j ≠ i → q_cell ε (q_uj σ i k x) j u = q_cell ε σ j u := fun _ _ _ h => q_cell_eq (fun _ => rfl) (fun _ => q_up_cell h) (fun _ => rfl)
theorem q_oth_r {i k : Nat} {x : Option Nat} : ∀ (ε : q_E) (j : Nat) (u : Nat × Nat), j ≠ i → q_cell ε (q_ur σ i k x) j u = q_cell ε σ j u := fun _ _ _ h => q_cell_eq (fun _ => rfl) (fun _ => rfl) (fun _ => q_up_cell h)
theorem q_putI {c n i k idx : Nat} {x : Int32} (hd : decode M.1.2.1 pc = .ok (.putfield idx, 3)) (hi : σ.2.2.2[i]? = some (c, n)) (hc : c < 12) (hk : k < q_N c) (hlink : Cond.fieldLink M.1.1.cls idx (q_T c k).1 (q_T c k).2.1 (q_T c k).2.2.1 ∈ q_gt) (hfin : (q_T c k).2.2.2 = false) (hty : q_ty c k = .int)
    (kk : q_K M (q_ui σ i k x) kc ks (pc + 3) lv st Q) : q_K M σ kc ks pc lv (.int x :: .ref i :: st) Q :=
  q_put (σ' := q_ui σ i k x) hd hi hc hk hlink hfin (fun _ => by rw [hty]; rfl) (fun _ => by rw [hty]; rfl) rfl q_oth_i (fun ε => q_f_set (fun j hj => by cases q_ty c j <;> simp [q_fv, q_ui, q_up, hj]) (by rw [hty]; simp [q_fv, q_ui, q_up, q_c])) kk
theorem q_putZ {c n i k idx : Nat} {x : Int32} (hd : decode M.1.2.1 pc = .ok (.putfield idx, 3)) (hi : σ.2.2.2[i]? = some (c, n)) (hc : c < 12) (hk : k < q_N c) (hlink : Cond.fieldLink M.1.1.cls idx (q_T c k).1 (q_T c k).2.1 (q_T c k).2.2.1 ∈ q_gt) (hfin : (q_T c k).2.2.2 = false) (hty : q_ty c k = .boolean) (hx : x = 0 ∨ x = 1)
    (kk : q_K M (q_ui σ i k x) kc ks (pc + 3) lv st Q) : q_K M σ kc ks pc lv (.int x :: .ref i :: st) Q :=
  q_put (σ' := q_ui σ i k x) hd hi hc hk hlink hfin (fun _ => by rw [hty]; rcases hx with rfl | rfl <;> rfl) (fun _ => by rw [hty]; rcases hx with rfl | rfl <;> rfl) rfl q_oth_i (fun ε => q_f_set (fun j hj => by cases q_ty c j <;> simp [q_fv, q_ui, q_up, hj]) (by rw [hty]; simp [q_fv, q_ui, q_up, q_c])) kk
theorem q_putJ {c n i k idx : Nat} {x : Int64} (hd : decode M.1.2.1 pc = .ok (.putfield idx, 3)) (hi : σ.2.2.2[i]? = some (c, n)) (hc : c < 12) (hk : k < q_N c) (hlink : Cond.fieldLink M.1.1.cls idx (q_T c k).1 (q_T c k).2.1 (q_T c k).2.2.1 ∈ q_gt) (hfin : (q_T c k).2.2.2 = false) (hty : q_ty c k = .long)
    (kk : q_K M (q_uj σ i k x) kc ks (pc + 3) lv st Q) : q_K M σ kc ks pc lv (.long x :: .ref i :: st) Q :=
  q_put (σ' := q_uj σ i k x) hd hi hc hk hlink hfin (fun _ => by rw [hty]; rfl) (fun _ => by rw [hty]; rfl) rfl q_oth_j (fun ε => q_f_set (fun j hj => by cases q_ty c j <;> simp [q_fv, q_uj, q_up, hj]) (by rw [hty]; simp [q_fv, q_uj, q_up, q_c])) kk
theorem q_putR {c n i k idx a : Nat} (hd : decode M.1.2.1 pc = .ok (.putfield idx, 3)) (hi : σ.2.2.2[i]? = some (c, n)) (hc : c < 12) (hk : k < q_N c) (hlink : Cond.fieldLink M.1.1.cls idx (q_T c k).1 (q_T c k).2.1 (q_T c k).2.2.1 ∈ q_gt) (hfin : (q_T c k).2.2.2 = true) (hini : M.1.1.name = "<init>") (hdecl : (q_T c k).1 = M.1.1.cls)
    (hty : (∃ n, q_ty c k = .object n) ∨ ∃ t, q_ty c k = .array t) (kk : q_K M (q_ur σ i k (some a)) kc ks (pc + 3) lv st Q) : q_K M σ kc ks pc lv (.ref a :: .ref i :: st) Q :=
  q_putF (σ' := q_ur σ i k (some a)) hd hi hc hk hlink hfin hini hdecl (fun _ => by rcases hty with ⟨n, hty⟩ | ⟨n, hty⟩ <;> rw [hty] <;> rfl) (fun _ => by rcases hty with ⟨n, hty⟩ | ⟨n, hty⟩ <;> rw [hty] <;> rfl) rfl q_oth_r
    (fun ε => q_f_set (fun j hj => by cases q_ty c j <;> simp [q_fv, q_ur, q_up, hj]) (by rcases hty with ⟨n, hty⟩ | ⟨n, hty⟩ <;> rw [hty] <;> simp [q_fv, q_ur, q_up, q_c, va_rf])) kk
end QH
