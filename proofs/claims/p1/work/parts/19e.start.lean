/-! what holds as the law begins; made by wip/whole/gen/tables.py -/
abbrev x_nar : Jvm.Cond := Jvm.Cond.and given_1 narrow_1
def x_od (b : Nat) (s : State) (w : Nat) : Nat := match (x_trms[w]?).bind (fun t => t.eval #[Value.ref b] s none [] s) with
  | some (.ref a) => a
  | _ => b
theorem x_exb : (List.range 59).all (fun w => w == 0 || (flatC x_nar).contains (.exactly ((x_trms[w]?).getD (.arg 0)) (x_nm w))) = true := by decide +kernel
theorem x_ex {b : Nat} {s : State} (h : x_nar.before #[Value.ref b] s = true) {w : Nat} {t : Term} (hw : x_trms[w]? = some t) (h0 : w ≠ 0) : (Cond.exactly t (x_nm w)).before #[Value.ref b] s = true := by
  have hl : w < 59 := (List.getElem?_eq_some_iff.mp hw).1
  have z := List.all_eq_true.mp x_exb w (List.mem_range.mpr hl)
  simp only [Bool.or_eq_true, beq_iff_eq, List.contains_iff_mem, hw, Option.getD_some] at z
  rcases z with z | z
  · exact absurd z h0
  · exact flat_of_before _ h _ z
theorem x_odw {b : Nat} {s : State} (h : x_nar.before #[Value.ref b] s = true) {w : Nat} {t : Term} (hw : x_trms[w]? = some t) (h0 : w ≠ 0) : t.eval #[Value.ref b] s none [] s = some (.ref (x_od b s w)) ∧ x_od b s w < s.heap.size ∧ va_O (x_nm w) (x_od b s w) (fun q => s.heap.size ≤ q) s s.heap := by
  have hex := x_ex h hw h0
  obtain ⟨a, c, cell, k, q1, q2, q3, q4, q5, q6, -⟩ := Cond.exactly_spec (args := #[Value.ref b]) (first := s) (o := none) (s := s) (idx := []) hex
  have e : x_od b s w = a := by
    unfold x_od
    rw [hw]
    simp only [Option.bind_some, q1]
  rw [e]
  exact ⟨q1, (Array.getElem?_eq_some_iff.mp q3).1, va_Oof hex q1 (fun a ha hn => by omega)⟩
theorem x_od0 (b : Nat) (s : State) : x_od b s 0 = b := rfl
theorem x_hod {b : Nat} {s : State} (h : x_nar.before #[Value.ref b] s = true) (hb : b < s.heap.size) (w : Nat) : x_od b s w < s.heap.size := by
  by_cases h0 : w = 0
  · subst h0; rw [x_od0]; exact hb
  · cases hw : x_trms[w]? with
    | none =>
      have e : x_od b s w = b := by unfold x_od; rw [hw]; rfl
      rw [e]; exact hb
    | some t => exact (x_odw h hw h0).2.1
theorem x_IN : ∀ (ci : Nat) (r : vw_C), x_cl[ci]? = some r → ∃ n, Cond.instantiable r.1 n ∈ x_Ts := x_ec (⟨3, tm 30 (by decide +kernel)⟩) (x_ec (⟨6, tm 38 (by decide +kernel)⟩) (x_ec (⟨6, tm 44 (by decide +kernel)⟩) (x_ec (⟨21, tm 630 (by decide +kernel)⟩) (x_ec (⟨3, tm 100 (by decide +kernel)⟩) (x_ec (⟨6, tm 148 (by decide +kernel)⟩) (x_ec (⟨6, tm 228 (by decide +kernel)⟩) (x_ec (⟨6, tm 391 (by decide +kernel)⟩) (x_ec (⟨6, tm 577 (by decide +kernel)⟩) (x_ec (⟨4, tm 898 (by decide +kernel)⟩) (x_en))))))))))
theorem x_Tsok {b : Nat} {s : State} (hts : ∀ w ∈ lw_tbl, w.before #[Value.ref b] s = true) : ∀ w ∈ x_Ts, va_Nw w s := fun w hw => va_Nw.of (x_GOOD w hw).1 (hts w (List.mem_filter.mp hw).1)
theorem x_KC {b : Nat} {s : State} (hts : ∀ w ∈ lw_tbl, w.before #[Value.ref b] s = true) : ∃ D : va_G, ab_KC D x_cl s := by
  have hT : ∀ (A : Array Value), ∀ w ∈ x_Ts, w.before A s = true := fun A w hw => va_Nw.use (x_GOOD w hw).1 (x_Tsok hts w hw)
  have h1 : ∀ (ci : Nat), ∃ (cC : ClassId) (iS : Nat → Nat), ∀ (r : vw_C), x_cl[ci]? = some r → u_Kn s r.1 r.2.1 r.2.2 cC iS := by
    intro ci
    cases hr : x_cl[ci]? with
    | none => exact ⟨0, fun _ => 0, fun r h => by cases h⟩
    | some r =>
      obtain ⟨n, hn⟩ := x_IN ci r hr
      obtain ⟨cC, iS, h⟩ := u_known (hT #[]) (x_US ci r hr) (hT #[] _ hn)
      exact ⟨cC, iS, fun r' h' => by cases h'; exact h⟩
  refine ⟨(fun ci => (h1 ci).choose, fun ci => (h1 ci).choose_spec.choose), fun ci r hr => ⟨(h1 ci).choose_spec.choose_spec r hr, fun A w hw => hT A w (x_US ci r hr w hw)⟩⟩
theorem x_prim {b : Nat} {s : State} (hts : ∀ w ∈ lw_tbl, w.before #[Value.ref b] s = true) {ty : FieldType} (hw : Cond.arrayClass ty ∈ lw_tbl) : ∃ cA, ArrOfT s cA ty ∧ s.vm.findClass ("[" ++ ty.toString) = some cA ∧ (Cond.arrayClass ty).before #[] s = true := by
  obtain ⟨c, k, comp, h1, h2, h3⟩ := Cond.arrayClass_spec (hts _ hw)
  exact ⟨c, fun n z => ⟨fun k h => (by cases h), k, h2, comp, h3⟩, h1, hts _ hw⟩
theorem x_objs {b : Nat} {s : State} (hts : ∀ w ∈ lw_tbl, w.before #[Value.ref b] s = true) {C : String} (hw : Cond.arrayOver (.object C) ∈ lw_tbl) : ∃ cA, ArrOfT s cA (.object C) ∧ va_RA s cA (.object C) := by
  obtain ⟨comp, c, k, h1, h2, h3, h4, h5⟩ := Cond.arrayOver_spec (hts _ hw)
  exact ⟨c, fun n z => ⟨fun k h => (by cases h), k, h3, comp, h4⟩, k, comp, h3, h4, h1, h5⟩
theorem x_AOw : ∀ (t : Nat) (C : String), x_aty[t]? = some (.object C) → Cond.arrayOver (.object C) ∈ lw_tbl := by
  intro t C h
  have z : C = "java/lang/String" ∨ C = "NotationReaderModel$Value" ∨ C = "java/lang/Object" := by
    have := List.mem_of_getElem? h
    simp only [x_aty, List.mem_cons, List.not_mem_nil, or_false] at this
    rcases this with q | q | q | q | q | q <;> first | (cases q; done) | (cases q; simp; done)
  rcases z with rfl | rfl | rfl
  · exact tr 636 (by decide +kernel)
  · exact tr 685 (by decide +kernel)
  · exact tr 493 (by decide +kernel)
theorem x_KA {b : Nat} {s : State} (hts : ∀ w ∈ lw_tbl, w.before #[Value.ref b] s = true) : ∃ dA : Nat → ClassId, ab_KA dA x_aty s := by
  have h1 : ∀ (t : Nat), ∃ (cA : ClassId), ∀ (ty : FieldType), x_aty[t]? = some ty → ArrOfT s cA ty ∧ va_RA s cA ty ∧ ((∃ x, newarray.typeOf x = ty) → (Cond.arrayClass ty).before #[] s = true) := by
    intro t
    cases ht : x_aty[t]? with
    | none => exact ⟨0, fun ty h => by cases h⟩
    | some ty =>
      have hm := List.mem_of_getElem? ht
      simp only [x_aty, List.mem_cons, List.not_mem_nil, or_false] at hm
      rcases hm with rfl | rfl | rfl | hm
      · obtain ⟨cA, a1, a2, a3⟩ := x_prim hts (ty := .byte) (tr 76 (by decide +kernel))
        exact ⟨cA, fun ty h => by cases h; exact ⟨a1, a2, fun _ => a3⟩⟩
      · obtain ⟨cA, a1, a2, a3⟩ := x_prim hts (ty := .int) (tr 749 (by decide +kernel))
        exact ⟨cA, fun ty h => by cases h; exact ⟨a1, a2, fun _ => a3⟩⟩
      · obtain ⟨cA, a1, a2, a3⟩ := x_prim hts (ty := .long) (tr 1179 (by decide +kernel))
        exact ⟨cA, fun ty h => by cases h; exact ⟨a1, a2, fun _ => a3⟩⟩
      · have hC : ∃ C, ty = .object C := by rcases hm with rfl | rfl | rfl <;> exact ⟨_, rfl⟩
        obtain ⟨C, rfl⟩ := hC
        obtain ⟨cA, a1, a2⟩ := x_objs hts (x_AOw t C ht)
        refine ⟨cA, fun ty h => ?_⟩
        cases h
        refine ⟨a1, a2, fun ⟨x, hx⟩ => ?_⟩
        cases x <;> simp [newarray.typeOf] at hx
  exact ⟨fun t => (h1 t).choose, fun t ty ht => (h1 t).choose_spec ty ht⟩
theorem x_ncb : x_nc.all (fun q => (flatC x_nar).contains (.not (.castable (((x_cl[q.1]?).getD ("", xT0, 0)).1) (((x_cl[q.2]?).getD ("", xT0, 0)).1)))) = true := by decide +kernel
theorem x_NC {b : Nat} {s : State} {D : va_G} (h : x_nar.before #[Value.ref b] s = true) (hKC : ab_KC D x_cl s) : ab_NCs D x_nc s := by
  intro i j hij
  have z := List.all_eq_true.mp x_ncb (i, j) hij
  simp only [List.contains_iff_mem] at z
  obtain ⟨ci, cj, f1, f2, f3⟩ := va_Nc.of (flat_of_before _ h _ z)
  have hi : ∃ r, x_cl[i]? = some r := by
    simp only [x_nc, List.mem_cons, Prod.mk.injEq, List.not_mem_nil, or_false] at hij
    rcases hij with ⟨rfl, -⟩ | ⟨rfl, -⟩ | ⟨rfl, -⟩ | ⟨rfl, -⟩ | ⟨rfl, -⟩ | ⟨rfl, -⟩ | ⟨rfl, -⟩ | ⟨rfl, -⟩ | ⟨rfl, -⟩ | ⟨rfl, -⟩ | ⟨rfl, -⟩ | ⟨rfl, -⟩ <;> exact ⟨_, rfl⟩
  have hj : ∃ r, x_cl[j]? = some r := by
    simp only [x_nc, List.mem_cons, Prod.mk.injEq, List.not_mem_nil, or_false] at hij
    rcases hij with ⟨-, rfl⟩ | ⟨-, rfl⟩ | ⟨-, rfl⟩ | ⟨-, rfl⟩ | ⟨-, rfl⟩ | ⟨-, rfl⟩ | ⟨-, rfl⟩ | ⟨-, rfl⟩ | ⟨-, rfl⟩ | ⟨-, rfl⟩ | ⟨-, rfl⟩ | ⟨-, rfl⟩ <;> exact ⟨_, rfl⟩
  obtain ⟨r, hr⟩ := hi
  obtain ⟨r', hr'⟩ := hj
  rw [hr] at f1
  rw [hr'] at f2
  cases f1.symm.trans (hKC i r hr).1.2.1
  cases f2.symm.trans (hKC j r' hr').1.2.1
  exact f3
theorem x_F {b : Nat} {s : State} {D : va_G} {dA : Nat → ClassId} (h : x_nar.before #[Value.ref b] s = true) (hts : ∀ w ∈ lw_tbl, w.before #[Value.ref b] s = true) (hKC : ab_KC D x_cl s) (hKA : ab_KA dA x_aty s) : ab_F D dA x_cl x_aty (x_od b s) x_Ts x_nc x_mt s := by
  refine ⟨x_Tsok hts, hKC, hKA, x_NC h hKC, fun t C ht => va_AO.of (hts _ (x_AOw t C ht)), fun M hM x a b' w hp => ?_⟩
  obtain ⟨z1, z2, tx, z3⟩ := ((x_MS M hM).2 x _ hp).2.2.2.2.2
  exact ⟨tx, vk_R.of (hts _ z3) (x_odw h z1 z2).1⟩
theorem x_OO {b : Nat} {s : State} (h : x_nar.before #[Value.ref b] s = true) : ab_OO s.heap.size (x_od b s) x_cl x_oo s s.heap := by
  intro w ci fs hw
  unfold x_oo at hw
  split at hw
  · rename_i hc
    obtain ⟨c1, c2, c3⟩ := hc
    cases hw
    refine ⟨_, rfl, ?_, fun k v hk => by simp at hk⟩
    have hw' : x_trms[w]? = some (x_trms[w]'c2) := List.getElem?_eq_getElem c2
    have z := (x_odw h hw' (by omega)).2.2
    rw [show x_nm w = "java/lang/String" from by unfold x_nm; rw [if_neg c3]] at z
    exact z
  · cases hw
theorem x_SZ {b : Nat} {s : State} (h : x_nar.before #[Value.ref b] s = true) (hts : ∀ w ∈ lw_tbl, w.before #[Value.ref b] s = true) : ∀ M ∈ x_mt, ab_SZ s.heap.size (x_od b s) x_Ts (my_y M).cls (my_p M) s s.heap := by
  intro M hM x a b' v hp
  obtain ⟨z1, z2⟩ := ((x_MS M hM).2 x _ hp).2.2.2.2.2
  subst z1
  refine ⟨_, _, _, ?_, z2⟩
  exact va_Zof (hts _ (tr 112 (by decide +kernel))) (hts _ (tr 6 (by decide +kernel))) (x_odw h (w := 58) rfl (by decide)).1 (fun a ha hn => by omega)
theorem x_LS1 {b : Nat} {s : State} (h : x_nar.before #[Value.ref b] s = true) (hts : ∀ w ∈ lw_tbl, w.before #[Value.ref b] s = true) : ab_LS s.heap.size Bundle.tN "UNASSIGNED_STACK" Bundle.steD s s.heap := ab_LS.of (hts _ (tr 174 (by decide +kernel))) (flat_of_before _ h _ (by decide +kernel)) (Nat.le_refl _)
theorem x_LS2 {b : Nat} {s : State} (h : x_nar.before #[Value.ref b] s = true) (hts : ∀ w ∈ lw_tbl, w.before #[Value.ref b] s = true) : ab_LS s.heap.size Bundle.tN "SUPPRESSED_SENTINEL" Bundle.listD s s.heap := ab_LS.of (hts _ (tr 176 (by decide +kernel))) (flat_of_before _ h _ (by decide +kernel)) (Nat.le_refl _)
def x_oa (L : Nat) (xs : Nat → Int32) : Nat → Option (FieldType × Nat × (Nat → Value)) := fun w => if w = 0 then some (.int, L, fun j => .int (xs j)) else none
theorem x_OA {b L : Nat} {xs : Nat → Int32} {s : State} (hb : b < s.heap.size) (hX : va_X b L xs s s.heap) : ab_OA s.heap.size (x_od b s) (x_oa L xs) s s.heap := by
  intro w t n f hw
  unfold x_oa at hw
  split at hw
  · rename_i h0
    subst h0
    cases hw
    obtain ⟨scr, g1, g2, g3, g4, g5⟩ := hX
    refine ⟨hb, scr, g1, g2, g3, ⟨Nat.le_of_eq g4.symm, by rw [g4]⟩, fun j hj => g5 j hj⟩
  · cases hw

