-- ===== end of PART A; then your names; then what follows =====
/-! THE CLAIM OUT OF ONE WALK OF THE LAW'S BODY. Your part is whole_start (and what it stands on); all else here is the same for every law, but numbers. -/
def R_law : String := "WhyNotLaw"
def lw_P (b : Addr) (xs : List Int32) (args : Array Value) (s : State) : Prop := args = #[.ref b] ∧ s.IntsAt b xs ∧ xs.length ≤ 3072 ∧ (Jvm.Cond.and given_1 narrow_1).before args s = true
def lw_Q (_ : Array Value) (s : State) (o : Outcome) (t : State) : Prop := o = .returned (some (.int 1)) ∧ Framed s o t [] 600000 7302250
def lw_Z (below : List Frame) (a : Array Value) (s : State) : State → Prop := fun t => ∃ o, t.status = .running ∧ Ended t below o ∧ lw_Q a s o t
/-- the law's own end, with 1 on the stack, nothing written that was there before, its room as the claim has it -/
theorem lw_ret {p : Program} {l : Launch} {e : Env} {s : State} {m : MethodId} {below : List Frame} {meth : Method} {c : Code} {b : Nat} (hx : p.tables.exec = Jvm.exec) (hb : c.code = code) (hr : meth.sig.returnType = ret) (hlocks : meth.locks = false) {pc : Nat} {H : Heap} {ls : Array Slot} (hdg : decode code pc = .ok (.ireturn, 1)) : W p l e room_1 s m #[Value.ref b] below meth c H [] 600000 7302250 (lw_Z below #[Value.ref b] s) (F0 m pc ls [.int 1]) := by
  intro T hT X
  obtain ⟨fs, hret, hrun, hended, hW, hframe⟩ := X.leave (v := some (.int 1)) (hlocks := hlocks) (fun h => by rw [hr] at h; cases h)
  have hmeth' : T.vm.method? m = some meth := X.method'
  refine ⟨T.setFrames fs, ?_, .returned (some (.int 1)), hrun, hended, rfl, ⟨_, rfl⟩, hW, hframe⟩
  jvm_step X.here [X.here.top, hx, hb, hdg, hmeth', hr, ret, narrow_b1]
  (try refine ⟨rfl, ?_⟩); (try refine ⟨rfl, ?_⟩)
  first | (intro acts; rw [hret _ acts rfl rfl rfl]) | rw [hret _ _ rfl rfl rfl]
  exact Steps.refl _
/-- what holds at the law's entry: the machine, the code, the tables' words (any of lw_tbl by 'hts w (by decide +kernel)'), the script of L ints xs at the cell b, what the Statement gives of the start (any of its parts by flat_of_before) -/
def lw_At (p : Program) (s : State) (m : MethodId) (meth : Method) (c : Code) (b L : Nat) (xs : Nat → Int32) : Prop :=
  p.tables.exec = Jvm.exec ∧ c.code = code ∧ meth.sig.returnType = ret ∧ c.maxLocals = 4 ∧ s.vm.findClass R_law = some m.cls ∧ (∀ w ∈ lw_tbl, w.before #[Value.ref b] s = true) ∧ va_X b L xs s s.heap ∧ b < s.heap.size ∧ meth.locks = false ∧ (Jvm.Cond.and given_1 narrow_1).before #[Value.ref b] s = true
-- ===== YOUR PART BEGINS =====
/-! THE LAW as a method of the abstract machine: its script, its end; from the constructors' state to the plain one. -/
def mL : q_M := ((yL_law, code, 4, some .boolean), (12, 478, 600000, 7302250))
def q_XF (b L : Nat) (xs : Nat → Int32) (ε : q_E) (args : Array Value) (s : State) : Prop := args = #[Value.ref b] ∧ ε.2.2.2 1002 = b ∧ va_X b L xs s s.heap ∧ b < s.heap.size ∧ ε.2.2.1 = s.heap.size
/-- the law's end, for a script of L ints xs -/
def q_FL (b L : Nat) (xs : Nat → Int32) : q_F := fun ε _ below args s t => q_XF b L xs ε args s → lw_Z below args s t
theorem q_ad_st {ε : q_E} {i : Nat} (h : ¬ i < 1000) : q_ad ε i = ε.2.2.2 i := if_neg h
section QL
variable {σ : q_S} {kc ks pc b L : Nat} {xs : Nat → Int32} {lv : List (Nat × Value)} {st : List Value}
theorem q_sld {x : Int32} {j : Nat} (hd : decode code pc = .ok (.iaload, 1)) (hx : x.toInt = (j : Int)) (hj : j < L) (kk : q_K mL σ kc ks (pc + 1) lv (.int (xs j) :: st) (q_FL b L xs)) : q_K mL σ kc ks pc lv (.int x :: .ref 1002 :: st) (q_FL b L xs) := by
  intro p l ε e s m args below meth c H locs ls A C hA hW hS hl
  by_cases h : q_XF b L xs ε args s
  · obtain ⟨rfl, h1, hX, hbl, h2⟩ := id h
    have hAb : ¬ A b := fun h => absurd (hA.2.2 b h) (by omega)
    have e1 : (Value.int x :: Value.ref 1002 :: st).map (q_c ε) = .int x :: .ref b :: st.map (q_c ε) := by
      show Value.int x :: Value.ref (q_ad ε 1002) :: _ = _
      rw [q_ad_st (by decide), h1]
    rw [e1]
    refine va_sld C.1 C.2.1 hX hbl hAb hS (q_ix hx hj) hd ?_
    rw [q_cl_of hx]
    exact kk p l ε e s m _ below meth c H locs ls A C hA hW hS hl
  · intro T hT X
    exact ⟨_, Steps.refl _, fun hh => absurd hh h⟩
theorem q_slen (hd : decode code pc = .ok (.arraylength, 1)) (kk : q_K mL σ kc ks (pc + 1) lv (.int (Int32.ofNat L) :: st) (q_FL b L xs)) : q_K mL σ kc ks pc lv (.ref 1002 :: st) (q_FL b L xs) := by
  intro p l ε e s m args below meth c H locs ls A C hA hW hS hl
  by_cases h : q_XF b L xs ε args s
  · obtain ⟨rfl, h1, hX, hbl, h2⟩ := id h
    have hAb : ¬ A b := fun h => absurd (hA.2.2 b h) (by omega)
    have e1 : (Value.ref 1002 :: st).map (q_c ε) = .ref b :: st.map (q_c ε) := by
      show Value.ref (q_ad ε 1002) :: _ = _
      rw [q_ad_st (by decide), h1]
    rw [e1]
    exact va_slen C.1 C.2.1 hX hbl hAb hS hd (kk p l ε e s m _ below meth c H locs ls A C hA hW hS hl)
  · intro T hT X
    exact ⟨_, Steps.refl _, fun hh => absurd hh h⟩
/-- 1 on the stack -/
theorem q_lawret (hd : decode code pc = .ok (.ireturn, 1)) (hk : Nat.ble kc 600000 = true ∧ Nat.ble ks 7302250 = true) : q_K mL σ kc ks pc lv [.int 1] (q_FL b L xs) := by
  intro p l ε e s m args below meth c H locs ls A C hA hW hS hl
  by_cases h : q_XF b L xs ε args s
  · obtain ⟨rfl, h1, hX, hbl, h2⟩ := id h
    have hf : ∀ q ∈ locs, s.heap.size ≤ q.base := fun q hq => by
      have h3 : ε.2.2.1 ≤ q.base := hA.2.2 _ (hS.2.2 q hq)
      omega
    have K := va_forget (locs := locs) hf (W.widen (Nat.le_of_ble_eq_true hk.1) (Nat.le_of_ble_eq_true hk.2) (lw_ret (p := p) (l := l) (e := e) (s := s) (m := m) (below := below) (meth := meth) (c := c) (b := b) (H := H) (ls := ls) C.1 C.2.1 C.2.2.2.1 C.2.2.2.2.2.2.1 hd))
    intro T hT X
    obtain ⟨t, a1, b1⟩ := K T hT X
    exact ⟨t, a1, fun _ => b1⟩
  · intro T hT X
    exact ⟨_, Steps.refl _, fun hh => absurd hh h⟩
end QL
def q_rows (t : Nat × Nat) : Nat := match t.1 with
  | 20 => 0
  | 21 => 0
  | 22 => 0
  | 23 => 0
  | 24 => t.2
  | c => q_N c
theorem q_WR {ε : q_E} {I : Nat → Nat → Int32} {J : Nat → Nat → Int64} {R : Nat → Nat → Option Nat} {H : Heap} (hR : ∀ (i : Nat) (t : Nat × Nat), q_lay0[i]? = some t → ∀ k, k < q_rows t → R i k = q_R0 i k) (h : q_W ε (q_z I J R 204) H) : q_W ε (q_s I J) H := by
  have hl : q_lay0.take 204 = q_lay0 := rfl
  obtain ⟨h1, h2, h3⟩ := h
  rw [show (q_z I J R 204).2.2.2 = q_lay0 from hl] at h1 h2
  refine ⟨h1, h2, fun i t ht h5 => ?_⟩
  · have hh := h3 i t (by rw [show (q_z I J R 204).2.2.2 = q_lay0 from hl]; exact ht) h5
    have hRt := hR i t ht
    obtain ⟨a, n⟩ := t
    have hf : ∀ c, (∀ k, k < q_N c → R i k = q_R0 i k) → q_f ε (q_z I J R 204) i c = q_f ε (q_s I J) i c := by
      intro c hc
      apply List.map_congr_left
      intro k hk
      have hk' := List.mem_range.mp hk
      cases q_ty c k <;> simp [q_fv, hc k hk']
    show va_at ε.1 vwCl (ε.2.2.1 + i, q_cell ε (q_s I J) i (a, n)) H
    have ho : ∀ c, (∀ k, k < q_N c → R i k = q_R0 i k) → va_at ε.1 vwCl (ε.2.2.1 + i, .inr (c, q_f ε (q_z I J R 204) i c)) H → va_at ε.1 vwCl (ε.2.2.1 + i, .inr (c, q_f ε (q_s I J) i c)) H := by
      intro c hc hx
      rw [← hf c hc]
      exact hx
    unfold q_cell at hh ⊢
    unfold q_rows at hRt
    dsimp only at hh hRt ⊢
    split at hh
    · exact hh
    · exact hh
    · exact hh
    · exact hh
    · have e1 : vp_cell (ε.2.1 4) (n, .inr (.inr (.inr (.inr fun k => (R i k).map (q_ad ε))))) = vp_cell (ε.2.1 4) (n, .inr (.inr (.inr (.inr fun k => (q_R0 i k).map (q_ad ε))))) := by
        rw [vp_cell_q, vp_cell_q]
        unfold arrV
        congr 1
        apply congrArg
        funext j
        show va_rf (Option.map (q_ad ε) (R i j.1)) = va_rf (Option.map (q_ad ε) (q_R0 i j.1))
        rw [hRt j.1 j.2]
      show H[ε.2.2.1 + i]? = some (vp_cell (ε.2.1 4) (n, .inr (.inr (.inr (.inr fun k => (q_R0 i k).map (q_ad ε))))))
      rw [← e1]
      exact hh
    · rename_i c h20 h21 h22 h23 h24
      have hRc : ∀ k, k < q_N a → R i k = q_R0 i k := by
        intro k hk
        apply hRt
        split
        · exact absurd rfl h20
        · exact absurd rfl h21
        · exact absurd rfl h22
        · exact absurd rfl h23
        · exact absurd rfl h24
        · exact hk
      exact ho a hRc hh
theorem q_Kz {M : q_M} {I : Nat → Nat → Int32} {J : Nat → Nat → Int64} {R : Nat → Nat → Option Nat} {kc ks pc : Nat} {lv : List (Nat × Value)} {st : List Value} {Q : q_F} (hR : ∀ (i : Nat) (t : Nat × Nat), q_lay0[i]? = some t → ∀ k, k < q_rows t → R i k = q_R0 i k) (k : q_K M (q_s I J) kc ks pc lv st Q) : q_K M (q_z I J R 204) kc ks pc lv st Q :=
  fun p l ε e s m args below meth c H locs ls A C hA hW hS hl => k p l ε e s m args below meth c H locs ls A C ⟨fun i t hi => hA.1 i t (by rw [show (q_z I J R 204).2.2.2 = q_lay0 from rfl]; exact hi), hA.2⟩ (q_WR hR hW) hS hl
/-- the law from its entry, in the abstract machine's words -/
theorem q_law_start {p : Program} {e : Env} {s : State} {m : MethodId} {below : List Frame} {meth : Method} {c : Code} (l : Launch) {b L : Nat} {xs : Nat → Int32} (C0 : lw_At p s m meth c b L xs)
    (k : q_K mL (q_z (fun _ _ => 0) (fun _ _ => 0) (fun _ _ => none) 0) 0 0 0 [(0, .ref 1002)] [] (q_FL b L xs)) : W p l e room_1 s m #[Value.ref b] below meth c s.heap [] 0 0 (lw_Z below #[Value.ref b] s) (entryFrame m ([Value.ref b] : List Value).toArray 4) := by
  obtain ⟨hx, hb, hr, hml, hown, hts, hX, hbl, hlocks, hgv⟩ := id C0
  obtain ⟨ε, e1, e2, hAm⟩ := q_start hts hgv
  have hl := lv_entry ([.ref b]) (n := 4) (Nat.le_of_ble_eq_true rfl)
  rw [lg_entry_eq]
  have hl2 : lv_has ((lg_sl [Value.ref b] ++ List.replicate (4 - (lg_sl [Value.ref b]).length) Slot.unset).toArray) 4 (q_lv ε [(0, .ref 1002)]) := by
    have e3 : q_lv ε [(0, .ref 1002)] = [(0, .ref b)] := by
      show [(0, Value.ref (q_ad ε 1002))] = _
      rw [q_ad_st (by decide), e2]
    rw [e3]
    exact hl
  have hW : q_W ε (q_z (fun _ _ => 0) (fun _ _ => 0) (fun _ _ => none) 0) s.heap := by
    refine ⟨by rw [e1]; rfl, Nat.zero_le _, fun i q hq => ?_⟩
    simp [q_z] at hq
  have K := k p l ε e s m #[Value.ref b] below meth c s.heap [] _ (q_A ε) ⟨hx, hb, hml, hr, fun w hw => hts w (List.mem_filter.mp hw).1, hown, hlocks, fun h => absurd h (by decide), hAm, Nat.le_of_eq e1⟩ ⟨fun i t hi => by simp [q_z] at hi, fun q h => by show ε.2.2.1 ≤ q; omega, fun q h => h⟩ hW va_S.rf hl2
  intro T hT X
  obtain ⟨t, a1, b1⟩ := K T hT X
  exact ⟨t, a1, b1 ⟨rfl, e2, hX, hbl, e1⟩⟩
theorem q_topI {M : q_M} {σ : q_S} {kc ks pc : Nat} {lv : List (Nat × Value)} {st : List Value} {Q : q_F} {x v : Int32} (h : x = v) (k : q_K M σ kc ks pc lv (.int v :: st) Q) : q_K M σ kc ks pc lv (.int x :: st) Q := h ▸ k
theorem q_topL {M : q_M} {σ : q_S} {kc ks pc : Nat} {lv : List (Nat × Value)} {st : List Value} {Q : q_F} {x v : Int64} (h : x = v) (k : q_K M σ kc ks pc lv (.long v :: st) Q) : q_K M σ kc ks pc lv (.long x :: st) Q := h ▸ k
theorem q_i2lz {x : Int32} : x.toInt64.toInt = x.toInt := by simp
