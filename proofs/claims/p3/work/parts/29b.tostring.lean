/-! the JDK: a new builder, and its text -/
theorem x_sub0 (x : Int32) : x - 0 = x := by simp
theorem x_0leN {c : Nat} (hc : c < 2 ^ 31) : (0 : Int32) ≤ nI c := nI_pos' hc
section XW
variable {e : xE} {d q qv n c a : Nat} {fs : List Value} {f : Nat → Int32} {h : ab_H} {z : Int32}
theorem j_ckLen {b : Int32} (hz : z ≤ b) : xT e d 66 0 [(0, .int z), (1, .int b)] [] h (fun o h' => ∃ v, o = .inl v ∧ v = none ∧ h' = h) := by
  have hM : (x_mt e.1)[66]? = some xM66 := rfl
  refine xT.s1 hM rfl rfl ?_
  refine xT.s1 hM rfl rfl ?_
  refine xT.s1 hM rfl rfl ?_
  refine xT.brT (hz) ?_
  exact xT.ret hM rfl rfl rfl rfl (⟨_, rfl, rfl, rfl⟩)
theorem j_cpRange (hB : j_B h q n f) (hc : c ≤ n) (hn : n ≤ 20000) (hz : z = 0) (r1 : h.length + 1 ≤ e.2.2.2.1) (r2 : ab_sz h + c ≤ e.2.2.2.2.1) : xT e (d + 1) 65 0 [(0, .ref q), (1, .int z), (2, .int (nI c))] [] h (fun o h' => ∃ v, o = .inl v ∧ v = some (.ref h.length) ∧ ∃ g : Nat → Int32, h' = h ++ [(.inl (0, c, fun j => .int (g j)) : ab_E)]) := by
  obtain ⟨hq, hf⟩ := hB
  have hM : (x_mt e.1)[65]? = some xM65 := rfl
  subst hz
  refine xT.s1 hM rfl rfl ?_
  refine xT.s1 hM rfl rfl ?_
  refine xT.go hM rfl rfl rfl rfl rfl rfl (xc_stat rfl rfl ⟨rfl, Nat.le_of_ble_eq_true rfl⟩) rfl ⟨Nat.le_of_ble_eq_true rfl, Nat.le_of_ble_eq_true rfl, by decide⟩ (j_ckLen (x_0leN (by omega))) (fun v h2 hv => ?_)
  obtain ⟨rfl, hh2⟩ := hv
  subst h2
  refine xT.s1 hM rfl rfl ?_
  refine xT.s1 hM rfl rfl ?_
  refine xT.s1 hM rfl rfl ?_
  rw [x_sub0]
  refine xT.s1 hM rfl rfl ?_
  refine xT.s1 hM rfl rfl ?_
  refine xT.s2 hM rfl rfl (x2_newb (by omega) r1 r2) ?_
  have hl := (List.getElem?_eq_some_iff.mp hq).1
  have hq' : (h ++ [(.inl (0, c, fun _ => .int 0) : ab_E)])[q]? = some (.inl (0, n, fun j => .int (f j))) := by rw [List.getElem?_append_left hl]; exact hq
  have hn' : (h ++ [(.inl (0, c, fun _ => .int 0) : ab_E)])[h.length]? = some (.inl (0, c, fun _ => .int 0)) := by simp
  have hset : (h ++ [(.inl (0, c, fun _ => .int 0) : ab_E)]).set h.length (.inl (0, c, fun j => .int (j_cp f c j))) = h ++ [(.inl (0, c, fun j => .int (j_cp f c j)) : ab_E)] := by simp
  generalize h ++ [(.inl (0, c, fun _ => .int 0) : ab_E)] = k at hq' hn' hset
  refine xT.s1 hM rfl rfl ?_
  refine xT.s1 hM rfl rfl ?_
  refine xT.s1 hM rfl rfl ?_
  refine xT.s1 hM rfl rfl ?_
  refine xT.s1 hM rfl rfl ?_
  refine xT.s1 hM rfl rfl ?_
  refine xT.s2 hM rfl rfl (x2_alen hq' (by decide)) ?_
  refine xT.s1 hM rfl rfl ?_
  refine xT.s1 hM rfl rfl ?_
  rw [x_sub0]
  refine xT.s1 hM rfl rfl ?_
  refine xT.go hM rfl rfl rfl rfl rfl rfl (xc_stat rfl rfl ⟨rfl, Nat.le_of_ble_eq_true rfl⟩) rfl ⟨Nat.le_of_ble_eq_true rfl, Nat.le_of_ble_eq_true rfl, by decide⟩ (j_min (nI n) (nI c)) (fun v h2 hv => ?_)
  obtain ⟨rfl, hh2⟩ := hv
  subst h2
  rw [show (if nI c < nI n then nI c else nI n) = nI c from by
    by_cases hcn : c < n
    · rw [if_pos (nI_lt hcn (by omega))]
    · rw [if_neg (nI_nlt (by omega) (by omega)), show n = c from by omega]]
  refine xT.s5 hM rfl rfl rfl rfl rfl rfl rfl rfl rfl rfl (pc' := 30) (S' := []) (h2 := k.set h.length (.inl (0, c, va_cpy (fun j => Value.int (f j)) (fun _ => .int 0) (0 : Int32).toNatClampNeg (Int32.ofInt 0).toNatClampNeg (nI c).toNatClampNeg))) ?_ ?_
  · have hcp : ab_cpb x_aty x_sb x_oo k 0 n c (fun j => .int (f j)) 0 (Int32.ofInt 0) (nI c) = true := by
      unfold ab_cpb
      rw [show x_aty[0]? = some .byte from rfl]
      simp only [Bool.and_eq_true, Bool.not_eq_true', decide_eq_false_iff_not, decide_eq_true_eq, List.all_eq_true, List.mem_range]
      rw [nI_clamp (by omega), show (Int32.ofInt 0).toNatClampNeg = 0 from by decide, show (0 : Int32).toNatClampNeg = 0 from by decide]
      exact ⟨⟨⟨⟨⟨by decide, by decide⟩, nI_pos (by omega)⟩, by omega⟩, by omega⟩, fun i _ => hf _⟩
    show (match k[q]?, k[h.length]? with
      | some (.inl (t, n0, f0)), some (.inl (u, n1, g0)) => if t = u ∧ ab_wt [] ≤ 20 ∧ ab_cpb x_aty x_sb x_oo k t n0 n1 f0 0 (Int32.ofInt 0) (nI c) = true then some (_, [], k.set h.length (.inl (u, n1, va_cpy f0 g0 (0 : Int32).toNatClampNeg (Int32.ofInt 0).toNatClampNeg (nI c).toNatClampNeg))) else none
      | _, _ => none) = _
    rw [hq', hn']
    simp only
    rw [if_pos ⟨trivial, by decide, hcp⟩]
  · rw [nI_clamp (by omega), show (Int32.ofInt 0).toNatClampNeg = 0 from by decide, show (0 : Int32).toNatClampNeg = 0 from by decide, j_cp_eq, hset]
    refine xT.s1 hM rfl rfl ?_
    exact xT.ret hM rfl rfl rfl rfl ⟨_, rfl, rfl, _, rfl⟩
theorem j_copyRange (hB : j_B h q n f) (hc : c ≤ n) (hn : n ≤ 20000) (hz : z = 0) (r1 : h.length + 1 ≤ e.2.2.2.1) (r2 : ab_sz h + c ≤ e.2.2.2.2.1) : xT e (d + 2) 64 0 [(0, .ref q), (1, .int z), (2, .int (nI c))] [] h (fun o h' => ∃ v, o = .inl v ∧ v = some (.ref h.length) ∧ ∃ g : Nat → Int32, h' = h ++ [(.inl (0, c, fun j => .int (g j)) : ab_E)]) := by
  obtain ⟨hq, hf⟩ := hB
  have hM : (x_mt e.1)[64]? = some xM64 := rfl
  refine xT.s1 hM rfl rfl ?_
  refine xT.s1 hM rfl rfl ?_
  refine xT.brT (hz) ?_
  refine xT.s1 hM rfl rfl ?_
  refine xT.s1 hM rfl rfl ?_
  refine xT.s2 hM rfl rfl (x2_alen hq (by decide)) ?_
  refine xT.s1 hM rfl rfl ?_
  refine xT.br (fun hb => ?_) (fun hb => ?_)
  · have ec : c = n := (nI_eq (by omega) (by omega)).mp hb
    subst ec
    refine xT.s1 hM rfl rfl ?_
    refine xT.s5 hM rfl rfl rfl rfl rfl rfl rfl rfl rfl rfl (pc' := 21) (S' := [.ref h.length]) (h2 := h ++ [.inl (0, c, fun j => .int (f j))]) ?_ ?_
    · show (match h[q]? with
        | some (Sum.inl (u, n, f)) => if x_aty[u]? = some FieldType.byte ∧ ab_wt ([] : List Value) ≤ 20 ∧ h.length + 1 ≤ e.2.2.2.1 ∧ ab_sz h + n ≤ e.2.2.2.2.1 ∧ (List.range n).all (fun i => ab_el u FieldType.byte x_sb x_oo h (f i)) = true then some (21, Value.ref h.length :: [], h ++ [Sum.inl (u, n, f)]) else none
        | _ => none) = _
      rw [hq]
      simp only
      rw [if_pos ⟨rfl, by decide, r1, r2, List.all_eq_true.mpr (fun i _ => hf i)⟩]
    have hn' : (h ++ [(.inl (0, c, fun j => .int (f j)) : ab_E)])[h.length]? = some (.inl (0, c, fun j => .int (f j))) := by simp
    refine xT.s5 hM rfl rfl rfl rfl rfl rfl rfl rfl rfl rfl (pc' := 24) (S' := [.ref h.length]) (h2 := h ++ [.inl (0, c, fun j => .int (f j))]) ?_ ?_
    · show (match (h ++ [(.inl (0, c, fun j => .int (f j)) : ab_E)])[h.length]? with
        | some (Sum.inl (u, _, _)) => if x_aty[u]? = some FieldType.byte then some (24, [Value.ref h.length], h ++ [(.inl (0, c, fun j => .int (f j)) : ab_E)]) else none
        | _ => none) = _
      rw [hn']
      rfl
    exact xT.ret hM rfl rfl rfl rfl ⟨_, rfl, rfl, _, rfl⟩
  · refine xT.s1 hM rfl rfl ?_
    refine xT.s1 hM rfl rfl ?_
    refine xT.s1 hM rfl rfl ?_
    refine xT.go hM rfl rfl rfl rfl rfl rfl (xc_stat rfl rfl ⟨rfl, Nat.le_of_ble_eq_true rfl⟩) rfl ⟨Nat.le_of_ble_eq_true rfl, Nat.le_of_ble_eq_true rfl, by decide⟩ (j_cpRange ⟨hq, hf⟩ hc hn hz r1 r2) (fun v h2 hv => ?_)
    obtain ⟨rfl, hv⟩ := hv
    exact xT.ret hM rfl rfl rfl rfl (⟨_, rfl, rfl, hv⟩)
theorem j_getValue (hS : j_SB h q qv fs n c f) : xT e d 91 0 [(0, .ref q)] [] h (fun o h' => ∃ v, o = .inl v ∧ v = some (.ref qv) ∧ h' = h) := by
  obtain ⟨hq, hl, f0, f1, f3, hB, hne, hc, hn⟩ := id hS
  have hM : (x_mt e.1)[91]? = some xM91 := rfl
  refine xT.s1 hM rfl rfl ?_
  refine xT.s2 hM rfl rfl (x2_get rfl (Or.inl rfl) hq f0) ?_
  exact xT.ret hM rfl rfl rfl rfl (⟨_, rfl, rfl, rfl⟩)
theorem j_sbLen0 (hS : j_SB h q qv fs n c f) : xT e d 92 0 [(0, .ref q)] [] h (fun o h' => ∃ v, o = .inl v ∧ v = some (.int (nI c)) ∧ h' = h) := by
  obtain ⟨hq, hl, f0, f1, f3, hB, hne, hc, hn⟩ := id hS
  have hM : (x_mt e.1)[92]? = some xM92 := rfl
  refine xT.s1 hM rfl rfl ?_
  refine xT.s2 hM rfl rfl (x2_get rfl (Or.inl rfl) hq f3) ?_
  exact xT.ret hM rfl rfl rfl rfl (⟨_, rfl, rfl, rfl⟩)
theorem j_sbLen (hS : j_SB h q qv fs n c f) : xT e (d + 1) 85 0 [(0, .ref q)] [] h (fun o h' => ∃ v, o = .inl v ∧ v = some (.int (nI c)) ∧ h' = h) := by
  obtain ⟨hq, hl, f0, f1, f3, hB, hne, hc, hn⟩ := id hS
  have hM : (x_mt e.1)[85]? = some xM85 := rfl
  refine xT.s1 hM rfl rfl ?_
  refine xT.go hM rfl rfl rfl rfl rfl rfl (xc_sup rfl rfl rfl hq ⟨rfl, Nat.le_of_ble_eq_true rfl, by decide⟩) rfl ⟨Nat.le_of_ble_eq_true rfl, Nat.le_of_ble_eq_true rfl, by decide⟩ (j_sbLen0 hS) (fun v h2 hv => ?_)
  obtain ⟨rfl, hh2⟩ := hv
  subst h2
  exact xT.ret hM rfl rfl rfl rfl (⟨_, rfl, rfl, rfl⟩)
theorem j_strInit (hS : j_SB h q qv fs n c f) (ha : h[a]? = some (.inr (9, x_cd 9))) (r1 : h.length + 1 ≤ e.2.2.2.1) (r2 : ab_sz h + c ≤ e.2.2.2.2.1) : xT e (d + 3) 78 0 [(0, .ref a), (1, .ref q), (2, .null)] [] h (fun o h' => ∃ v, o = .inl v ∧ v = none ∧ ∃ (F : List Value) (g : Nat → Int32), h'[a]? = some (.inr (9, F)) ∧ F[0]? = some (.ref h.length) ∧ F[1]? = some (.int 0) ∧ h'[h.length]? = some (.inl (0, c, fun j => .int (g j))) ∧ (∀ (k : Nat) (x : ab_E), h[k]? = some x → k ≠ a → h'[k]? = some x) ∧ h'.length = h.length + 1 ∧ ab_sz h' = ab_sz h + c) := by
  obtain ⟨hq, hl, f0, f1, f3, hB, hne, hc, hn⟩ := id hS
  have hB1 := hB.1
  have la : (x_cd 9).length = 4 := rfl
  have ha0 := ha
  have hM : (x_mt e.1)[78]? = some xM78 := rfl
  refine xT.s1 hM rfl rfl ?_
  refine xT.ob hM rfl rfl rfl rfl rfl rfl ?_
  refine xT.s1 hM rfl rfl ?_
  refine xT.go hM rfl rfl rfl rfl rfl rfl (xc_inh rfl rfl rfl hq ⟨rfl, Nat.le_of_ble_eq_true rfl⟩) rfl ⟨Nat.le_of_ble_eq_true rfl, Nat.le_of_ble_eq_true rfl, by decide⟩ (j_getValue hS) (fun v h2 hv => ?_)
  obtain ⟨rfl, hh2⟩ := hv
  subst h2
  refine xT.s1 hM rfl rfl ?_
  refine xT.s1 hM rfl rfl ?_
  refine xT.go hM rfl rfl rfl rfl rfl rfl (xc_inh rfl rfl rfl hq ⟨rfl, Nat.le_of_ble_eq_true rfl⟩) rfl ⟨Nat.le_of_ble_eq_true rfl, Nat.le_of_ble_eq_true rfl, by decide⟩ (j_sbLen hS) (fun v h2 hv => ?_)
  obtain ⟨rfl, hh2⟩ := hv
  subst h2
  refine xT.s1 hM rfl rfl ?_
  refine xT.s1 hM rfl rfl ?_
  refine xT.go hM rfl rfl rfl rfl rfl rfl (xc_inh rfl rfl rfl hq ⟨rfl, Nat.le_of_ble_eq_true rfl⟩) rfl ⟨Nat.le_of_ble_eq_true rfl, Nat.le_of_ble_eq_true rfl, by decide⟩ (j_isLatin1 hq f1) (fun v h2 hv => ?_)
  obtain ⟨rfl, hh2⟩ := hv
  subst h2
  refine xT.s1 hM rfl rfl ?_
  refine xT.brF (by decide) ?_
  refine xT.s1 hM rfl rfl ?_
  refine xT.s1 hM rfl rfl ?_
  refine xT.put hM rfl rfl ha (Or.inl rfl) (by rw [la]; decide) (rfl) (Or.inr ⟨rfl, rfl, rfl⟩) (fun h_1 F_1 eF1 eh1 up1 fb1 fo1 fl1 => ?_)
  replace hq := (up1.2.1 _ (x_neq hq ha (by simp))).trans hq
  replace hB1 := (up1.2.1 _ (x_neq hB1 ha (by simp))).trans hB1
  replace ha := up1.1
  replace la := fl1.trans la
  have fs1 := fb1
  refine xT.s1 hM rfl rfl ?_
  refine xT.s1 hM rfl rfl ?_
  refine xT.s1 hM rfl rfl ?_
  refine xT.s1 hM rfl rfl ?_
  refine xT.go hM rfl rfl rfl rfl rfl rfl (xc_stat rfl rfl ⟨rfl, Nat.le_of_ble_eq_true rfl⟩) rfl ⟨Nat.le_of_ble_eq_true rfl, Nat.le_of_ble_eq_true rfl, by decide⟩ (j_copyRange ⟨hB1, hB.2⟩ hc hn (by decide) (by rw [up1.2.2.1]; exact r1) (by rw [up1.2.2.2]; exact r2)) (fun v h2 hv => ?_)
  obtain ⟨rfl, g, rfl⟩ := hv
  have w := x_nw_push h_1 (.inl (0, c, fun j => .int (g j)))
  replace ha := w.2.1 _ _ ha
  generalize h_1 ++ [(.inl (0, c, fun j => .int (g j)) : ab_E)] = h5 at w ha ⊢
  refine xT.put hM rfl rfl ha (Or.inl rfl) (by rw [la]; decide) (rfl) (Or.inr ⟨rfl, rfl, rfl⟩) (fun h_2 F_2 eF2 eh2 up2 fb2 fo2 fl2 => ?_)
  replace ha := up2.1
  replace la := fl2.trans la
  replace fs1 := (fo2 1 (by decide)).trans fs1
  have fs0 := fb2
  refine xT.s1 hM rfl rfl ?_
  have hln : a ≠ h_1.length := fun z => by have := x_lt ha0; rw [up1.2.2.1] at z; omega
  exact xT.ret hM rfl rfl rfl rfl (⟨_, rfl, rfl, _, g, ha, by rw [fs0, up1.2.2.1], fs1, by rw [← up1.2.2.1]; exact (up2.2.1 _ (Ne.symm hln)).trans w.1, fun k x hk n1 => (up2.2.1 k n1).trans (w.2.1 _ _ ((up1.2.1 k n1).trans hk)), by rw [up2.2.2.1, w.2.2.1, up1.2.2.1], by rw [up2.2.2.2, w.2.2.2, up1.2.2.2]; rfl⟩)
theorem j_strInit1 (hS : j_SB h q qv fs n c f) (ha : h[a]? = some (.inr (9, x_cd 9))) (r1 : h.length + 1 ≤ e.2.2.2.1) (r2 : ab_sz h + c ≤ e.2.2.2.2.1) : xT e (d + 4) 77 0 [(0, .ref a), (1, .ref q)] [] h (fun o h' => ∃ v, o = .inl v ∧ v = none ∧ ∃ (F : List Value) (g : Nat → Int32), h'[a]? = some (.inr (9, F)) ∧ F[0]? = some (.ref h.length) ∧ F[1]? = some (.int 0) ∧ h'[h.length]? = some (.inl (0, c, fun j => .int (g j))) ∧ (∀ (k : Nat) (x : ab_E), h[k]? = some x → k ≠ a → h'[k]? = some x) ∧ h'.length = h.length + 1 ∧ ab_sz h' = ab_sz h + c) := by
  have hM : (x_mt e.1)[77]? = some xM77 := rfl
  refine xT.s1 hM rfl rfl ?_
  refine xT.s1 hM rfl rfl ?_
  refine xT.s1 hM rfl rfl ?_
  refine xT.go hM rfl rfl rfl rfl rfl rfl (xc_init rfl rfl rfl ⟨rfl, Nat.le_of_ble_eq_true rfl, rfl, rfl, rfl⟩) rfl ⟨Nat.le_of_ble_eq_true rfl, Nat.le_of_ble_eq_true rfl, by decide⟩ (j_strInit hS ha r1 r2) (fun v h2 hv => ?_)
  obtain ⟨rfl, hv⟩ := hv
  exact xT.ret hM rfl rfl rfl rfl (⟨_, rfl, rfl, hv⟩)
theorem j_toString (hS : j_SB h q qv fs n c f) (r1 : h.length + 2 ≤ e.2.2.2.1) (r2 : ab_sz h + (4 + c) ≤ e.2.2.2.2.1) (hB0 : e.2.2.2.2.2 ≤ h.length) : xT e (d + 5) 84 0 [(0, .ref q)] [] h (fun o h' => ∃ v, o = .inl v ∧ v = some (.ref h.length) ∧ j_str e h' (.ref h.length) c ∧ (∀ (k : Nat) (x : ab_E), h[k]? = some x → h'[k]? = some x) ∧ h'.length = h.length + 2 ∧ ab_sz h' = ab_sz h + 4 + c) := by
  obtain ⟨hq, hl, f0, f1, f3, hB, hne, hc, hn⟩ := id hS
  have hM : (x_mt e.1)[84]? = some xM84 := rfl
  refine xT.new hM rfl rfl rfl (by omega) (by show ab_sz h + 4 ≤ _; omega) (fun h1 e1 w1 => ?_)
  have hS1 : j_SB h1 q qv fs n c f := ⟨w1.2.1 _ _ hq, hl, f0, f1, f3, ⟨w1.2.1 _ _ hB.1, hB.2⟩, hne, hc, hn⟩
  have s1 : ab_sz h1 = ab_sz h + 4 := w1.2.2.2
  refine xT.s1 hM rfl rfl ?_
  refine xT.s1 hM rfl rfl ?_
  refine xT.go hM rfl rfl rfl rfl rfl rfl (xc_init rfl rfl rfl ⟨rfl, Nat.le_of_ble_eq_true rfl, rfl, rfl, rfl⟩) rfl ⟨Nat.le_of_ble_eq_true rfl, Nat.le_of_ble_eq_true rfl, by decide⟩ (j_strInit1 hS1 w1.1 (by rw [w1.2.2.1]; omega) (by rw [s1]; omega)) (fun v h2 hv => ?_)
  obtain ⟨rfl, F, g, p1, p2, p3, p4, p5, p6, p7⟩ := hv
  exact xT.ret hM rfl rfl rfl rfl (⟨_, rfl, rfl, ⟨F, _, g, Or.inl ⟨_, rfl, p1⟩, p2, p3, Or.inl ⟨_, rfl, p4⟩, by omega, fun q hq => by cases hq; have := w1.2.2.1; omega⟩, fun k x hk => p5 k x (w1.2.1 _ _ hk) (fun z => by have := x_lt hk; omega), by rw [p6, w1.2.2.1], by rw [p7, s1]⟩)
theorem j_sbInit0 (hq : h[q]? = some (.inr (12, x_cd 12))) (r1 : h.length + 1 ≤ e.2.2.2.1) (r2 : ab_sz h + 16 ≤ e.2.2.2.2.1) : xT e d 86 0 [(0, .ref q), (1, .int (nI 16))] [] h (fun o h' => ∃ v, o = .inl v ∧ v = none ∧ ∃ F, j_SB h' q h.length F 16 0 (fun _ => 0) ∧ (∀ (k : Nat) (x : ab_E), h[k]? = some x → k ≠ q → h'[k]? = some x) ∧ h'.length = h.length + 1 ∧ ab_sz h' = ab_sz h + 16) := by
  have hl : (x_cd 12).length = 4 := rfl
  have f1 : (x_cd 12)[1]? = some (.int 0) := rfl
  have f3 : (x_cd 12)[3]? = some (.int (nI 0)) := rfl
  have hM : (x_mt e.1)[86]? = some xM86 := rfl
  refine xT.s1 hM rfl rfl ?_
  refine xT.ob hM rfl rfl rfl rfl rfl rfl ?_
  refine xT.s4 hM rfl rfl rfl rfl rfl rfl rfl rfl rfl rfl ?_
  refine xT.s1 hM rfl rfl ?_
  refine xT.brF (by decide) ?_
  refine xT.s1 hM rfl rfl ?_
  refine xT.s1 hM rfl rfl ?_
  refine xT.s2 hM rfl rfl (x2_newb (by omega) r1 r2) ?_
  have w := x_nw_push h (.inl (0, 16, fun _ => .int 0))
  have hq0 := hq
  replace hq := w.2.1 _ _ hq
  generalize h ++ [(.inl (0, 16, fun _ => .int 0) : ab_E)] = h5 at w hq ⊢
  refine xT.put hM rfl rfl hq (Or.inl rfl) (by rw [hl]; decide) (rfl) (Or.inl rfl) (fun h_1 F_1 eF1 eh1 up1 fb1 fo1 fl1 => ?_)
  replace hq := up1.1
  replace hl := fl1.trans hl
  replace f1 := (fo1 1 (by decide)).trans f1
  replace f3 := (fo1 3 (by decide)).trans f3
  have fb0 := fb1
  refine xT.s1 hM rfl rfl ?_
  refine xT.s1 hM rfl rfl ?_
  refine xT.put hM rfl rfl hq (Or.inl rfl) (by rw [hl]; decide) (rfl) (Or.inl rfl) (fun h_2 F_2 eF2 eh2 up2 fb2 fo2 fl2 => ?_)
  replace hq := up2.1
  replace hl := fl2.trans hl
  replace f3 := (fo2 3 (by decide)).trans f3
  replace fb0 := (fo2 0 (by decide)).trans fb0
  replace f1 := fb2
  refine xT.s1 hM rfl rfl ?_
  have hne : h.length ≠ q := fun z => by have := x_lt hq0; omega
  exact xT.ret hM rfl rfl rfl rfl (⟨_, rfl, rfl, _, ⟨hq, hl, fb0, f1, f3, ⟨(up2.2.1 _ hne).trans ((up1.2.1 _ hne).trans w.1), fun _ => (by decide : fits .byte (.int 0) = true)⟩, Ne.symm hne, by omega, by omega⟩, fun k x hk n1 => (up2.2.1 k n1).trans ((up1.2.1 k n1).trans (w.2.1 _ _ hk)), by rw [up2.2.2.1, up1.2.2.1, w.2.2.1], by rw [up2.2.2.2, up1.2.2.2, w.2.2.2]; rfl⟩)
theorem j_sbInit (hq : h[q]? = some (.inr (12, x_cd 12))) (r1 : h.length + 1 ≤ e.2.2.2.1) (r2 : ab_sz h + 16 ≤ e.2.2.2.2.1) : xT e (d + 1) 82 0 [(0, .ref q)] [] h (fun o h' => ∃ v, o = .inl v ∧ v = none ∧ ∃ F, j_SB h' q h.length F 16 0 (fun _ => 0) ∧ (∀ (k : Nat) (x : ab_E), h[k]? = some x → k ≠ q → h'[k]? = some x) ∧ h'.length = h.length + 1 ∧ ab_sz h' = ab_sz h + 16) := by
  have hM : (x_mt e.1)[82]? = some xM82 := rfl
  refine xT.s1 hM rfl rfl ?_
  refine xT.s1 hM rfl rfl ?_
  refine xT.go hM rfl rfl rfl rfl rfl rfl (xc_init rfl rfl rfl ⟨rfl, Nat.le_of_ble_eq_true rfl, rfl, rfl, rfl⟩) rfl ⟨Nat.le_of_ble_eq_true rfl, Nat.le_of_ble_eq_true rfl, by decide⟩ (j_sbInit0 hq r1 r2) (fun v h2 hv => ?_)
  obtain ⟨rfl, hv⟩ := hv
  exact xT.ret hM rfl rfl rfl rfl (⟨_, rfl, rfl, hv⟩)
end XW
