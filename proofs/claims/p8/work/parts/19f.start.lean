theorem x_IN : ∀ (ci : Nat) (r : vw_C), x_cl[ci]? = some r → ∃ n, Cond.instantiable r.1 n ∈ x_Ts := x_ec (⟨3, tm 30 (by decide +kernel)⟩) (x_ec (⟨6, tm 38 (by decide +kernel)⟩) (x_ec (⟨6, tm 44 (by decide +kernel)⟩) (x_ec (⟨21, tm 630 (by decide +kernel)⟩) (x_ec (⟨3, tm 100 (by decide +kernel)⟩) (x_ec (⟨6, tm 148 (by decide +kernel)⟩) (x_ec (⟨6, tm 228 (by decide +kernel)⟩) (x_ec (⟨6, tm 391 (by decide +kernel)⟩) (x_ec (⟨6, tm 577 (by decide +kernel)⟩) (x_ec (⟨4, tm 898 (by decide +kernel)⟩) (x_ec (⟨7, tm 411 (by decide +kernel)⟩) (x_ec (⟨9, tm 1052 (by decide +kernel)⟩) (x_ec (⟨4, tm 804 (by decide +kernel)⟩) (x_en)))))))))))))
theorem x_Tsok {b : Nat} {s : State} (hts : ∀ w ∈ lw_tbl, w.before #[Value.ref b] s = true) : ∀ w ∈ x_Ts, va_Nw w s := fun w hw => va_Nw.of (x_GOOD w hw).1 (hts w (List.mem_filter.mp hw).1)
theorem x_KC {b : Nat} {s : State} (hts : ∀ w ∈ lw_tbl, w.before #[Value.ref b] s = true) : ∃ D : va_G, ab_KC D x_cl s := by
  have hT : ∀ (A : Array Value), ∀ w ∈ x_Ts, w.before A s = true := fun A w hw => va_Nw.use (x_GOOD w hw).1 (x_Tsok hts w hw)
  have h1 : ∀ (ci : Nat), ∃ (cC : ClassId) (iS : Nat → Nat), ∀ (r : vw_C), x_cl[ci]? = some r → u_Kn s r.1 r.2.1 r.2.2 cC iS := by
    intro ci
    cases hr : x_cl[ci]? with
    | none => exact ⟨0, fun _ => 0, fun r h => by cases h⟩
    | some r =>
      obtain ⟨n, hn⟩ := x_IN ci r hr
      obtain ⟨cC, iS, h⟩ := u_known (hT #[]) (x_US ci r hr) (hT #[] _ hn)
      exact ⟨cC, iS, fun r' h' => by cases h'; exact h⟩
  refine ⟨(fun ci => (h1 ci).choose, fun ci => (h1 ci).choose_spec.choose), fun ci r hr => ⟨(h1 ci).choose_spec.choose_spec r hr, fun A w hw => hT A w (x_US ci r hr w hw)⟩⟩
theorem x_prim {b : Nat} {s : State} (hts : ∀ w ∈ lw_tbl, w.before #[Value.ref b] s = true) {ty : FieldType} (hw : Cond.arrayClass ty ∈ lw_tbl) : ∃ cA, ArrOfT s cA ty ∧ s.vm.findClass ("[" ++ ty.toString) = some cA ∧ (Cond.arrayClass ty).before #[] s = true := by
  obtain ⟨c, k, comp, h1, h2, h3⟩ := Cond.arrayClass_spec (hts _ hw)
  exact ⟨c, fun n z => ⟨fun k h => (by cases h), k, h2, comp, h3⟩, h1, hts _ hw⟩
theorem x_objs {b : Nat} {s : State} (hts : ∀ w ∈ lw_tbl, w.before #[Value.ref b] s = true) {C : String} (hw : Cond.arrayOver (.object C) ∈ lw_tbl) : ∃ cA, ArrOfT s cA (.object C) ∧ va_RA s cA (.object C) := by
  obtain ⟨comp, c, k, h1, h2, h3, h4, h5⟩ := Cond.arrayOver_spec (hts _ hw)
  exact ⟨c, fun n z => ⟨fun k h => (by cases h), k, h3, comp, h4⟩, k, comp, h3, h4, h1, h5⟩
theorem x_AOw : ∀ (t : Nat) (C : String), x_aty[t]? = some (.object C) → Cond.arrayOver (.object C) ∈ lw_tbl := by
  intro t C h
  have z : C = "java/lang/String" ∨ C = "NotationReaderModel$Value" ∨ C = "java/lang/Object" := by
    have := List.mem_of_getElem? h
    simp only [x_aty, List.mem_cons, List.not_mem_nil, or_false] at this
    rcases this with q | q | q | q | q | q <;> first | (cases q; done) | (cases q; simp; done)
  rcases z with rfl | rfl | rfl
  · exact tr 636 (by decide +kernel)
  · exact tr 685 (by decide +kernel)
  · exact tr 493 (by decide +kernel)
theorem x_KA {b : Nat} {s : State} (hts : ∀ w ∈ lw_tbl, w.before #[Value.ref b] s = true) : ∃ dA : Nat → ClassId, ab_KA dA x_aty s := by
  have h1 : ∀ (t : Nat), ∃ (cA : ClassId), ∀ (ty : FieldType), x_aty[t]? = some ty → ArrOfT s cA ty ∧ va_RA s cA ty ∧ ((∃ x, newarray.typeOf x = ty) → (Cond.arrayClass ty).before #[] s = true) := by
    intro t
    cases ht : x_aty[t]? with
    | none => exact ⟨0, fun ty h => by cases h⟩
    | some ty =>
      have hm := List.mem_of_getElem? ht
      simp only [x_aty, List.mem_cons, List.not_mem_nil, or_false] at hm
      rcases hm with rfl | rfl | rfl | hm
      · obtain ⟨cA, a1, a2, a3⟩ := x_prim hts (ty := .byte) (tr 76 (by decide +kernel))
        exact ⟨cA, fun ty h => by cases h; exact ⟨a1, a2, fun _ => a3⟩⟩
      · obtain ⟨cA, a1, a2, a3⟩ := x_prim hts (ty := .int) (tr 749 (by decide +kernel))
        exact ⟨cA, fun ty h => by cases h; exact ⟨a1, a2, fun _ => a3⟩⟩
      · obtain ⟨cA, a1, a2, a3⟩ := x_prim hts (ty := .long) (tr 1179 (by decide +kernel))
        exact ⟨cA, fun ty h => by cases h; exact ⟨a1, a2, fun _ => a3⟩⟩
      · have hC : ∃ C, ty = .object C := by rcases hm with rfl | rfl | rfl <;> exact ⟨_, rfl⟩
        obtain ⟨C, rfl⟩ := hC
        obtain ⟨cA, a1, a2⟩ := x_objs hts (x_AOw t C ht)
        refine ⟨cA, fun ty h => ?_⟩
        cases h
        refine ⟨a1, a2, fun ⟨x, hx⟩ => ?_⟩
        cases x <;> simp [newarray.typeOf] at hx
  exact ⟨fun t => (h1 t).choose, fun t ty ht => (h1 t).choose_spec ty ht⟩
theorem x_ncb : x_nc.all (fun q => (flatC x_nar).contains (.not (.castable (((x_cl[q.1]?).getD ("", xT0, 0)).1) (((x_cl[q.2]?).getD ("", xT0, 0)).1)))) = true := by decide +kernel
theorem x_NC {b : Nat} {s : State} {D : va_G} (h : x_nar.before #[Value.ref b] s = true) (hKC : ab_KC D x_cl s) : ab_NCs D x_nc s := by
  intro i j hij
  have z := List.all_eq_true.mp x_ncb (i, j) hij
  simp only [List.contains_iff_mem] at z
  obtain ⟨ci, cj, f1, f2, f3⟩ := va_Nc.of (flat_of_before _ h _ z)
  have hi : ∃ r, x_cl[i]? = some r := by
    simp only [x_nc, List.mem_cons, Prod.mk.injEq, List.not_mem_nil, or_false] at hij
    rcases hij with ⟨rfl, -⟩ | ⟨rfl, -⟩ | ⟨rfl, -⟩ | ⟨rfl, -⟩ | ⟨rfl, -⟩ | ⟨rfl, -⟩ | ⟨rfl, -⟩ | ⟨rfl, -⟩ | ⟨rfl, -⟩ | ⟨rfl, -⟩ | ⟨rfl, -⟩ | ⟨rfl, -⟩ <;> exact ⟨_, rfl⟩
  have hj : ∃ r, x_cl[j]? = some r := by
    simp only [x_nc, List.mem_cons, Prod.mk.injEq, List.not_mem_nil, or_false] at hij
    rcases hij with ⟨-, rfl⟩ | ⟨-, rfl⟩ | ⟨-, rfl⟩ | ⟨-, rfl⟩ | ⟨-, rfl⟩ | ⟨-, rfl⟩ | ⟨-, rfl⟩ | ⟨-, rfl⟩ | ⟨-, rfl⟩ | ⟨-, rfl⟩ | ⟨-, rfl⟩ | ⟨-, rfl⟩ <;> exact ⟨_, rfl⟩
  obtain ⟨r, hr⟩ := hi
  obtain ⟨r', hr'⟩ := hj
  rw [hr] at f1
  rw [hr'] at f2
  cases f1.symm.trans (hKC i r hr).1.2.1
  cases f2.symm.trans (hKC j r' hr').1.2.1
  exact f3
/-- the one static of which only 'a reference or null' is said -/
def x_vS (b : Nat) (s : State) : Value := match (Term.static "jdk/internal/util/Preconditions" "SIOOBE_FORMATTER" "Ljava/util/function/BiFunction;").eval #[Value.ref b] s none [] s with
  | some (.ref _) => .float 119
  | _ => .null
theorem x_F {b : Nat} {s : State} {vS : Value} {D : va_G} {dA : Nat → ClassId} (h : x_nar.before #[Value.ref b] s = true) (hts : ∀ w ∈ lw_tbl, w.before #[Value.ref b] s = true) (hKC : ab_KC D x_cl s) (hKA : ab_KA dA x_aty s) : ab_F D dA x_cl x_aty (x_od b s) x_Ts x_nc (x_mt vS) s := by
  refine ⟨x_Tsok hts, hKC, hKA, x_NC h hKC, fun t C ht => va_AO.of (hts _ (x_AOw t C ht)), fun M hM x a b' w hp => ?_⟩
  obtain ⟨t0, z1, z2, z3, tx, z4⟩ := ((x_MS vS M hM).2 x _ hp).2.2.2.2.2.2.2
  obtain ⟨o1, -, -⟩ := x_odw h z1 z2
  refine ⟨tx, vk_R.of (hts _ z4) ?_⟩
  rcases z3 with z3 | ⟨z3, z5⟩
  · rw [← z3]; exact o1
  · obtain ⟨a', c, cell, k, q1, -⟩ := Cond.exactly_spec (args := #[Value.ref b]) (first := s) (o := none) (s := s) (idx := []) (flat_of_before _ h _ z5)
    have z6 := flat_of_before _ h _ z3
    simp [Cond.before, Cond.holds, Cond.value, o1, q1] at z6
    rw [z6]; exact q1
theorem x_txf {w ci : Nat} {fs : List Value} (hw : x_oo w = some (ci, fs)) : ∃ q ∈ x_tx, q.1 = w ∧ ci = 9 ∧ fs = [.float (UInt32.ofNat q.2.1), .int 0] := by
  unfold x_oo at hw
  cases hf : x_tx.find? (fun q => q.1 == w) with
  | none => rw [hf] at hw; cases hw
  | some q =>
    rw [hf] at hw
    have h2 : q.1 = w := by have z := List.find?_some hf; simpa using z
    cases hw
    exact ⟨q, List.mem_of_find?_eq_some hf, h2, rfl, rfl⟩
theorem x_u32 {q : Nat × Nat × List Int32} (hq : q ∈ x_tx) : (UInt32.ofNat q.2.1).toNat = q.2.1 := by
  have z := List.all_eq_true.mp x_ttb q hq
  simp only [Bool.and_eq_true, decide_eq_true_eq, List.contains_iff_mem] at z
  exact UInt32.toNat_ofNat_of_lt' z.1.2
theorem x_OO {b : Nat} {s : State} (h : x_nar.before #[Value.ref b] s = true) : ab_OO s.heap.size (x_od b s) x_cl x_oo s s.heap := by
  intro w ci fs hw
  obtain ⟨q, hq, rfl, rfl, rfl⟩ := x_txf hw
  obtain ⟨a1, a2, a3, a4⟩ := x_str h hq
  refine ⟨_, rfl, a1, fun k v hk => ?_⟩
  match k, hk with
  | 0, hk =>
    cases hk
    refine ⟨by decide, ?_⟩
    show va_OF "java/lang/String" "value" "[B" (.ref (x_od b s (UInt32.ofNat q.2.1).toNat)) _ _ _ _
    rw [x_u32 hq]
    exact a3
  | 1, hk =>
    cases hk
    exact ⟨by decide, a2⟩
  | k + 2, hk => simp at hk
def x_oa (L : Nat) (xs : Nat → Int32) : Nat → Option (FieldType × Nat × (Nat → Value)) := fun w => if w = 0 then some (.int, L, fun j => .int (xs j)) else if w = 59 then some (.object "java/lang/Object", 0, fun _ => .null) else (x_tx.find? (fun q => q.2.1 == w)).map (fun q => (.byte, q.2.2.length, fun j => .int (q.2.2.getD j 0)))
theorem x_defb : (flatC x_nar).contains (.arrayOf (.static "java/util/ArrayList" "DEFAULTCAPACITY_EMPTY_ELEMENTDATA" "[Ljava/lang/Object;") (.object "java/lang/Object")) = true ∧ (flatC x_nar).contains (.eq (.length (.static "java/util/ArrayList" "DEFAULTCAPACITY_EMPTY_ELEMENTDATA" "[Ljava/lang/Object;")) (.int 0)) = true := by decide +kernel
theorem x_OA {b L : Nat} {xs : Nat → Int32} {s : State} (h : x_nar.before #[Value.ref b] s = true) (hb : b < s.heap.size) (hX : va_X b L xs s s.heap) : ab_OA s.heap.size (x_od b s) (x_oa L xs) s s.heap := by
  have hA : ∀ a : Nat, a < s.heap.size → ¬ s.heap.size ≤ a := fun a ha hn => by omega
  intro w t n f hw
  unfold x_oa at hw
  split at hw
  · rename_i h0
    subst h0
    cases hw
    obtain ⟨scr, g1, g2, g3, g4, g5⟩ := hX
    refine ⟨hb, scr, g1, g2, g3, ⟨Nat.le_of_eq g4.symm, by rw [g4]⟩, fun j hj => g5 j hj⟩
  · split at hw
    · rename_i h0
      subst h0
      cases hw
      obtain ⟨k1, k2⟩ := x_defb
      obtain ⟨t, ht, cell, c1, c2, c3, c4, c5, c6, c7⟩ := va_Tof (N := 0) (f := fun _ => .null) (A := fun q => s.heap.size ≤ q) (by omega) (flat_of_before _ h _ (by simpa using k1)) (va_eqt (flat_of_before _ h _ (by simpa using k2))) (fun j hj => by omega) hA
      rw [x_odv (w := 59) rfl ht]
      exact ⟨Nat.not_le.mp c7, cell, c1, c2, c3, ⟨c4, c5⟩, c6⟩
    · cases hf : x_tx.find? (fun q => q.2.1 == w) with
      | none => rw [hf] at hw; cases hw
      | some q =>
        rw [hf] at hw
        have h2 : q.2.1 = w := by have z := List.find?_some hf; simpa using z
        cases hw
        obtain ⟨-, -, -, cell, c1, c2, c3, c4, c5, c6, c7⟩ := x_str h (List.mem_of_find?_eq_some hf)
        rw [← h2]
        exact ⟨Nat.not_le.mp c7, cell, c1, c2, c3, ⟨c4, c5⟩, c6⟩
theorem x_txd : x_tx.all (fun q => x_tx.all (fun r => decide (q.1 = r.1) || decide (q.2.2 ≠ r.2.2))) = true := by decide +kernel
theorem x_inj {b : Nat} {s : State} (h : x_nar.before #[Value.ref b] s = true) : ∀ w w', (x_oo w).isSome = true → (x_oo w').isSome = true → x_od b s w = x_od b s w' → w = w' := by
  intro w w' hw hw' e
  obtain ⟨⟨ci, fs⟩, hz⟩ := Option.isSome_iff_exists.mp hw
  obtain ⟨⟨ci', fs'⟩, hz'⟩ := Option.isSome_iff_exists.mp hw'
  obtain ⟨q, hq, rfl, -, -⟩ := x_txf hz
  obtain ⟨q', hq', rfl, -, -⟩ := x_txf hz'
  have z := List.all_eq_true.mp (List.all_eq_true.mp x_txd q hq) q' hq'
  simp only [Bool.or_eq_true, decide_eq_true_eq] at z
  rcases z with z | z
  · exact z
  · exfalso
    obtain ⟨-, -, a3, a4⟩ := x_str h hq
    obtain ⟨-, -, b3, b4⟩ := x_str h hq'
    rw [← e] at b3
    obtain ⟨cf, k, i, f, cell, u1, u2, u3, u4, u5, -⟩ := a3
    obtain ⟨cf', k', i', f', cell', v1, v2, v3, v4, v5, -⟩ := b3
    cases u1.symm.trans v1
    cases u3.symm.trans v3
    have ea : x_od b s q.2.1 = x_od b s q'.2.1 := by
      have := u5.symm.trans v5
      simpa using this
    rw [← ea] at b4
    obtain ⟨c1, p1, p2, p3, p4, p5, p6, -⟩ := a4
    obtain ⟨c2, r1, r2, r3, r4, r5, r6, -⟩ := b4
    cases p1.symm.trans r1
    have z6 := List.all_eq_true.mp x_ttb q hq
    have z6' := List.all_eq_true.mp x_ttb q' hq'
    simp only [Bool.and_eq_true, decide_eq_true_eq, List.contains_iff_mem] at z6 z6'
    have el : q.2.2.length = q'.2.2.length := by
      have := p5.symm.trans r5
      exact (nI_eq (by omega) (by omega)).mp this
    apply z
    apply List.ext_getElem el
    intro j hj hj'
    have y1 := p6 j hj
    have y2 := r6 j hj'
    have y3 := y1.symm.trans y2
    have y4 : q.2.2.getD j 0 = q'.2.2.getD j 0 := by simpa using y3
    rw [List.getD_eq_getElem?_getD, List.getD_eq_getElem?_getD, List.getElem?_eq_getElem hj, List.getElem?_eq_getElem hj'] at y4
    exact y4
theorem x_SZ {b : Nat} {s : State} (h : x_nar.before #[Value.ref b] s = true) (hts : ∀ w ∈ lw_tbl, w.before #[Value.ref b] s = true) : ∀ M ∈ x_mt (x_vS b s), ab_SZ s.heap.size (x_od b s) x_Ts (my_y M).cls (my_p M) s s.heap := by
  have hA : ∀ a : Nat, a < s.heap.size → ¬ s.heap.size ≤ a := fun a ha hn => by omega
  intro M hM x a b' v hp
  rcases ((x_MS (x_vS b s) M hM).2 x _ hp).2.2.2.2.2.2.2 with ⟨z1, z2⟩ | ⟨z1, z2⟩ | ⟨z1, z2⟩
  · subst z1
    refine ⟨_, _, _, ?_, z2⟩
    exact va_Zof (hts _ (tr 112 (by decide +kernel))) (hts _ (tr 6 (by decide +kernel))) (x_odw h (w := 59) rfl (by decide +kernel)).1 hA
  · subst z1
    refine ⟨_, _, _, ?_, z2⟩
    exact va_Zof (hts _ (tr 312 (by decide +kernel))) (hts _ (tr 13 (by decide +kernel))) (va_eqi (flat_of_before _ h _ (by decide +kernel))) hA
  · subst z1
    refine ⟨_, _, _, ?_, z2⟩
    obtain ⟨v, hv, hr⟩ := Cond.isRef_spec (flat_of_before _ h (.isRef (.static "jdk/internal/util/Preconditions" "SIOOBE_FORMATTER" "Ljava/util/function/BiFunction;")) (by decide +kernel))
    have hZ : ab_v s.heap.size (x_od b s) (x_vS b s) = v := by
      unfold x_vS
      rw [hv]
      cases v with
      | ref a => show Value.ref (x_od b s 119) = .ref a; rw [x_odv (w := 119) rfl hv]
      | null => rfl
      | _ => cases hr
    rw [hZ]
    exact va_Zof (hts _ (tr 332 (by decide +kernel))) (hts _ (tr 15 (by decide +kernel))) hv hA
theorem x_MI {b : Nat} {s : State} {vS : Value} (h : x_nar.before #[Value.ref b] s = true) (hts : ∀ w ∈ lw_tbl, w.before #[Value.ref b] s = true) : ∀ M ∈ x_mt vS, ab_MI (x_od b s) x_aty x_Ts (my_y M).cls (my_p M) s := by
  have hmi : va_Mi "[Ljava/lang/Object;" (x_od b s 60) s := by
    obtain ⟨v, hv, -⟩ := Cond.isRef_spec (flat_of_before _ h (.isRef (.mirror "[Ljava/lang/Object;")) (by decide +kernel))
    obtain ⟨c, k, a, h1, h2, h3, rfl⟩ := Term.mirror_spec hv
    rw [x_odv (w := 60) rfl hv]
    exact ⟨c, k, h1, h2, h3⟩
  intro M hM
  refine ⟨fun x a b' w hp => ?_, fun x t b' w C hp ht => ?_⟩
  · obtain ⟨z1, z2⟩ := ((x_MS vS M hM).2 x _ hp).2.2.2.2.2.2.2
    exact ⟨_, by rw [z1]; exact hmi, z2⟩
  · obtain ⟨z1, z2, z3⟩ := ((x_MS vS M hM).2 x _ hp).2.2.2.2.2.2.2
    subst z2
    cases ht
    exact ⟨by rw [z1]; exact hmi, va_Dc.of (hts _ (tr 1193 (by decide +kernel)))⟩
theorem x_LS1 {b : Nat} {s : State} (h : x_nar.before #[Value.ref b] s = true) (hts : ∀ w ∈ lw_tbl, w.before #[Value.ref b] s = true) : ab_LS s.heap.size Bundle.tN "UNASSIGNED_STACK" Bundle.steD s s.heap := ab_LS.of (hts _ (tr 174 (by decide +kernel))) (flat_of_before _ h _ (by decide +kernel)) (Nat.le_refl _)
theorem x_LS2 {b : Nat} {s : State} (h : x_nar.before #[Value.ref b] s = true) (hts : ∀ w ∈ lw_tbl, w.before #[Value.ref b] s = true) : ab_LS s.heap.size Bundle.tN "SUPPRESSED_SENTINEL" Bundle.listD s s.heap := ab_LS.of (hts _ (tr 176 (by decide +kernel))) (flat_of_before _ h _ (by decide +kernel)) (Nat.le_refl _)

