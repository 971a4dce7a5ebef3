/-! throws of one's own: throw new E("text"), throw new E() -/
/-- what the words say of an exception's entries: its class (9), its constructor with a text (10) -/
def ab_isZ (w : Cond) : Prop := w = .laysStatic Bundle.tN "UNASSIGNED_STACK" Bundle.steD ∨ w = .laysStatic Bundle.tN "SUPPRESSED_SENTINEL" Bundle.listD ∨ w = .isRef (.static Bundle.tN "UNASSIGNED_STACK" Bundle.steD) ∨ w = .isRef (.static Bundle.tN "SUPPRESSED_SENTINEL" Bundle.listD)
def ab_p9 (cl : List vw_C) (Ts : List Cond) (own : String) (x : Nat) (n : ab_N) : Prop := match n with
  | (9, ce, _, _) => ∃ r : vw_C, cl[ce]? = some r ∧ Cond.classLink own x r.1 ∈ Ts ∧ Cond.instantiable r.1 6 ∈ Ts ∧ Cond.initialized r.1 ∈ Ts
  | (10, ce, _, _) => ∃ (r : vw_C) (names : List String), cl[ce]? = some r ∧ r.2.2 = 0 ∧ Bundle.fit r.1 = true ∧ names.length ≤ 4 ∧ (∀ n ∈ names, Bundle.fit n = true) ∧ ∀ w ∈ Bundle.ownAtoms own x r.1 names, ab_isZ w ∨ w ∈ Ts
  | (14, ce, _, _) => ∃ (r : vw_C) (names : List String), cl[ce]? = some r ∧ r.2.2 = 0 ∧ Bundle.fit r.1 = true ∧ names.length ≤ 4 ∧ (∀ n ∈ names, Bundle.fit n = true) ∧ ∀ w ∈ Bundle.ownAtoms0 own x r.1 names, ab_isZ w ∨ w ∈ Ts
  | _ => True
section AB7A
variable {p : Program} {l : Launch} {e : Env} {B NC NS : Nat} {od : Nat → Nat} {D : va_G} {dA : Nat → ClassId} {cl : List vw_C} {ct : Nat → Nat → FieldType} {cd : Nat → List Value} {aty : List FieldType} {oa : Nat → Option (FieldType × Nat × (Nat → Value))} {oo : Nat → Option (Nat × List Value)} {sb : List (Nat × Nat)} {Ts : List Cond} {nc : List (Nat × Nat)} {mt : List ab_M}
set_option maxHeartbeats 8000000 in
theorem ab_TH_ok (hx : p.tables.exec = Jvm.exec) (hnt : l.stackTraces = false) (hSF : ab_SF cl ct cd aty sb Ts mt) (h9 : ∀ M ∈ mt, ∀ x n, my_p M x = some n → ab_p9 cl Ts (my_y M).cls x n) : ab_TH p l e B NC NS od D dA cl aty oa oo Ts nc mt := by
  intro M d R s m args below meth c H locs cells slots n0 z0 pc ce x1 x2 x3 ls h hM hA hls hth hc1 hc2 hR
  obtain ⟨a1, a2, a3, a4, a5, a6, a7, a8, a9, a10, a11, a12, a13, ls1, ls2, aOO, aSZ, aMI⟩ := id hA
  obtain ⟨hsb, hCS, hgood, hus, hmws, hms⟩ := id hSF
  obtain ⟨hck, hpl⟩ := hms M hM
  unfold ab_th at hth
  split at hth
  · rename_i i0 l0 t0 l3 t3 i4 l4 t4 i6 l6 t6 l9 t9 e0 e3 e4 e6 e9
    split at hth
    · rename_i ce' _ _ _ _ w cf _ _ p0 p4 p6
      split at hth
      · rename_i hcc
        obtain ⟨hcc1, hcc2⟩ := hcc
        cases hth
        subst hcc1
        obtain ⟨d0, q0, -⟩ := ab_fe_ok hck e0
        obtain ⟨d3, q3, -⟩ := ab_fe_ok hck e3
        obtain ⟨d4, q4, -⟩ := ab_fe_ok hck e4
        obtain ⟨d6, q6, -⟩ := ab_fe_ok hck e6
        obtain ⟨d9, q9, -⟩ := ab_fe_ok hck e9
        have k0 : l0 = 3 := by rcases q0 with q | q; exact absurd q (by simp [ab_len]); exact q
        have k3 : l3 = 1 := by rcases q3 with q | q; exact absurd q (by simp [ab_len]); exact q
        have k4 : l4 = 2 := by rcases q4 with q | q; exact absurd q (by simp [ab_len]); exact q
        have k6 : l6 = 3 := by rcases q6 with q | q; exact absurd q (by simp [ab_len]); exact q
        have k9 : l9 = 1 := by rcases q9 with q | q; exact absurd q (by simp [ab_len]); exact q
        subst k0 k3 k4 k6 k9
        rw [← a1] at d0 d3 d4 d6 d9
        obtain ⟨r, hr, w1, w2, w3⟩ := h9 M hM _ _ p0
        obtain ⟨r', names, hr', hr0, hfit, hnl, hnf, hown9⟩ := h9 M hM _ _ p6
        cases hr.symm.trans hr'
        intro T hT X
        subst hT
        obtain ⟨b1, b2, b3, b4, b5, b6, b7⟩ := id hR
        have X0 := ab_rebase X (R' := { frames := R.frames, cells := R.cells - cells, slots := R.slots - slots, locals := R.locals }) (Nat.le_refl _) (Nat.le_refl _) (by show cells + (R.cells - cells) ≤ R.cells; omega) (by show slots + (R.slots - slots) ≤ R.slots; omega)
        have hF' : ab_F D dA cl aty od Ts nc mt (T.setFrames (.invoking m args :: below)) := a8.warm hgood hus X.warmed
        have ls1' : ab_LS B Bundle.tN "UNASSIGNED_STACK" Bundle.steD (T.setFrames (.invoking m args :: below)) (T.setFrames (.invoking m args :: below)).heap := ls1.kept X.warmed.alike b3.2.1
        have ls2' : ab_LS B Bundle.tN "SUPPRESSED_SENTINEL" Bundle.listD (T.setFrames (.invoking m args :: below)) (T.setFrames (.invoking m args :: below)).heap := ls2.kept X.warmed.alike b3.2.1
        obtain ⟨hTs, hKC, hKA, hNCs, hAO, hST⟩ := id hF'
        have hown : (T.setFrames (.invoking m args :: below)).vm.findClass (my_y M).cls = some m.cls := by
          show T.vm.findClass _ = _
          rw [X.warmed.alike.findClass]; exact a5
        have htr : e.platform.stackTraces = false := by rw [X.admits.platform]; exact hnt
        obtain ⟨tx, hZ⟩ := hST M hM _ _ _ _ p4
        obtain ⟨vm₁, cX, kX, hfX, hkX, -, -, X₁, st1⟩ := X0.newCold hx (n := 6) hown (va_Nw.use rfl (hTs _ w1)) (va_Nw.use rfl (hTs _ w2)) (va_Nw.use rfl (hTs _ w3)) (g := F0 m pc ls []) rfl d0 (by show 0 + 1 ≤ R.cells - cells; omega) (by show 0 + 6 ≤ R.slots - slots; omega)
        have hcell : ((T.setVm vm₁).pushCell { cls := cX, slots := kX.instanceTypes.map defaultValue, vm := .none }).heap[T.heap.size]? = some (freshCell cX kX) := State.heap_pushCell_size _ _
        generalize hT1 : (T.setVm vm₁).pushCell { cls := cX, slots := kX.instanceTypes.map defaultValue, vm := .none } = T₁ at X₁ st1 hcell
        have hat : ∀ w ∈ Bundle.ownAtoms (my_y M).cls x3 r.1 names, w.before args (T.setFrames (.invoking m args :: below)) = true := by
          intro w hw
          rcases hown9 w hw with hz | hz
          · rcases hz with rfl | rfl | rfl | rfl
            · exact ls1'.lays args
            · exact ls2'.lays args
            · exact ls1'.isRef args
            · exact ls2'.isRef args
          · exact va_Nw.use (hgood w hz).1 (hTs w hz)
        have st2 := X₁.ldcString hx hown (text := tx) (a := od w.toNat) (args := args) hZ.1 hZ.2 (g := F0 m (pc + 4) ls [.ref T.heap.size, .ref T.heap.size]) rfl d4
        obtain ⟨U, hsteps, hrun, hend, hW, hsame, cE, hcE, K⟩ := X₁.ctorThrowS hx htr hown hfit hnf hat (fun y hy => by cases hy) hfX hkX hcell (Nat.le_refl _) (msg := .ref (od w.toNat)) rfl
          (g := F0 m (pc + 6) ls [.ref (od w.toNat), .ref T.heap.size, .ref T.heap.size]) rfl (hls.trans a2.symm) rfl rfl (rest := []) rfl d6 d9 (by rw [a6, hcc2]; intro y hy; cases hy) (by show names.length + 3 < R.frames; omega)
          (by
            have e1 : (F0 m (pc + 6) ls [.ref (od w.toNat), .ref T.heap.size, .ref T.heap.size]).monitorRoom = 0 := rfl
            have e2 : ((Value.ref T.heap.size :: ([] : List Value)).map fun v => v.category).sum = 1 := rfl
            rw [e1, e2]
            show _ ≤ R.locals
            omega) a4
        have hsame2 : T.sameButNew ({ U with vm := T.vm } : State) [] (0 + 1) (0 + 6) := ab_sb hsame
        have hlow : ∀ q, q < T.heap.size → U.heap[q]? = T.heap[q]? := fun q hq => ab_sb_heap hsame2 hq
        have hUs : U.heap.size = T.heap.size + 1 := by
          have z1 : U.heap.size ≤ T.heap.size + (0 + 1) := hsame2.2.2.1
          have z2 := (Array.getElem?_eq_some_iff.mp hcE).1
          omega
        have hsame3 : s.sameButNew ({ U with vm := s.vm } : State) (locs ++ []) (cells + (0 + 1)) (slots + (0 + 6)) := X.same.trans (hsame2.setVm s.vm)
        have hRU : ab_R B od D dA cl NC NS s.heap n0 z0 (h ++ [.inr (ce, List.replicate 6 .null)]) U.heap locs (cells + 1) (slots + 6) := by
          refine hR.push rfl hc1 hc2 ⟨r, hr, ?_⟩ hUs hlow
          rw [hr0, ← b2]
          refine ⟨cE, hcE, ?_, K.vm, fun k hk => absurd hk (Nat.not_lt_zero _)⟩
          exact Option.some.inj (K.cls.symm.trans (hKC ce r hr).1.2.1)
        refine ⟨U, st1 _ ?_, hrun, ?_, State.WarmedH.trans X.warmed hW, locs, cells + 1, slots + 6, ?_, hRU⟩
        · show Steps p.tables e below (T₁.setTop (F0 m (pc + 3) ls [.ref T.heap.size])) U
          jvm_step X₁.here [X₁.here.top, hx, d3, Value.category]
          exact st2 _ hsteps
        · show Ended U below (.threw (B + h.length))
          rw [← b2]; exact hend
        · rw [List.append_nil] at hsame3
          exact hsame3
      · cases hth
    · cases hth
  · cases hth
set_option maxHeartbeats 8000000 in
theorem ab_TH0_ok (hx : p.tables.exec = Jvm.exec) (hnt : l.stackTraces = false) (hSF : ab_SF cl ct cd aty sb Ts mt) (h9 : ∀ M ∈ mt, ∀ x n, my_p M x = some n → ab_p9 cl Ts (my_y M).cls x n)   : ab_TH0 p l e B NC NS od D dA cl aty oa oo Ts nc mt := by
  intro M d R s m args below meth c H locs cells slots n0 z0 pc ce x1 x3 ls h hM hA hls hth hc1 hc2 hR
  obtain ⟨a1, a2, a3, a4, a5, a6, a7, a8, a9, a10, a11, a12, a13, ls1, ls2, aOO, aSZ, aMI⟩ := id hA
  obtain ⟨hsb, hCS, hgood, hus, hmws, hms⟩ := id hSF
  obtain ⟨hck, hpl⟩ := hms M hM
  unfold ab_th0 at hth
  split at hth
  · rename_i i0 l0 t0 l3 t3 i6 l6 t6 l9 t9 e0 e3 e6 e9
    split at hth
    · rename_i ce' _ _ cf _ _ p0 p6
      split at hth
      · rename_i hcc
        obtain ⟨hcc1, hcc2⟩ := hcc
        cases hth
        subst hcc1
        obtain ⟨d0, q0, -⟩ := ab_fe_ok hck e0
        obtain ⟨d3, q3, -⟩ := ab_fe_ok hck e3
        obtain ⟨d6, q6, -⟩ := ab_fe_ok hck e6
        obtain ⟨d9, q9, -⟩ := ab_fe_ok hck e9
        have k0 : l0 = 3 := by rcases q0 with q | q; exact absurd q (by simp [ab_len]); exact q
        have k3 : l3 = 1 := by rcases q3 with q | q; exact absurd q (by simp [ab_len]); exact q
        have k6 : l6 = 3 := by rcases q6 with q | q; exact absurd q (by simp [ab_len]); exact q
        have k9 : l9 = 1 := by rcases q9 with q | q; exact absurd q (by simp [ab_len]); exact q
        subst k0 k3 k6 k9
        rw [← a1] at d0 d3 d6 d9
        obtain ⟨r, hr, w1, w2, w3⟩ := h9 M hM _ _ p0
        obtain ⟨r', names, hr', hr0, hfit, hnl, hnf, hown9⟩ := h9 M hM _ _ p6
        cases hr.symm.trans hr'
        intro T hT X
        subst hT
        obtain ⟨b1, b2, b3, b4, b5, b6, b7⟩ := id hR
        have X0 := ab_rebase X (R' := { frames := R.frames, cells := R.cells - cells, slots := R.slots - slots, locals := R.locals }) (Nat.le_refl _) (Nat.le_refl _) (by show cells + (R.cells - cells) ≤ R.cells; omega) (by show slots + (R.slots - slots) ≤ R.slots; omega)
        have hF' : ab_F D dA cl aty od Ts nc mt (T.setFrames (.invoking m args :: below)) := a8.warm hgood hus X.warmed
        have ls1' : ab_LS B Bundle.tN "UNASSIGNED_STACK" Bundle.steD (T.setFrames (.invoking m args :: below)) (T.setFrames (.invoking m args :: below)).heap := ls1.kept X.warmed.alike b3.2.1
        have ls2' : ab_LS B Bundle.tN "SUPPRESSED_SENTINEL" Bundle.listD (T.setFrames (.invoking m args :: below)) (T.setFrames (.invoking m args :: below)).heap := ls2.kept X.warmed.alike b3.2.1
        obtain ⟨hTs, hKC, hKA, hNCs, hAO, hST⟩ := id hF'
        have hown : (T.setFrames (.invoking m args :: below)).vm.findClass (my_y M).cls = some m.cls := by
          show T.vm.findClass _ = _
          rw [X.warmed.alike.findClass]; exact a5
        have htr : e.platform.stackTraces = false := by rw [X.admits.platform]; exact hnt
        obtain ⟨vm₁, cX, kX, hfX, hkX, -, -, X₁, st1⟩ := X0.newCold hx (n := 6) hown (va_Nw.use rfl (hTs _ w1)) (va_Nw.use rfl (hTs _ w2)) (va_Nw.use rfl (hTs _ w3)) (g := F0 m pc ls []) rfl d0 (by show 0 + 1 ≤ R.cells - cells; omega) (by show 0 + 6 ≤ R.slots - slots; omega)
        have hcell : ((T.setVm vm₁).pushCell { cls := cX, slots := kX.instanceTypes.map defaultValue, vm := .none }).heap[T.heap.size]? = some (freshCell cX kX) := State.heap_pushCell_size _ _
        generalize hT1 : (T.setVm vm₁).pushCell { cls := cX, slots := kX.instanceTypes.map defaultValue, vm := .none } = T₁ at X₁ st1 hcell
        have hat : ∀ w ∈ Bundle.ownAtoms0 (my_y M).cls x3 r.1 names, w.before args (T.setFrames (.invoking m args :: below)) = true := by
          intro w hw
          rcases hown9 w hw with hz | hz
          · rcases hz with rfl | rfl | rfl | rfl
            · exact ls1'.lays args
            · exact ls2'.lays args
            · exact ls1'.isRef args
            · exact ls2'.isRef args
          · exact va_Nw.use (hgood w hz).1 (hTs w hz)
        obtain ⟨U, hsteps, hrun, hend, hW, hsame, cE, hcE, K⟩ := X₁.ctorThrow0 hx htr hown hfit hnf hat (fun y hy => by cases hy) hfX hkX hcell (Nat.le_refl _)
          (g := F0 m (pc + 4) ls [.ref T.heap.size, .ref T.heap.size]) rfl (hls.trans a2.symm) rfl rfl (rest := []) rfl d6 d9 (by rw [a6, hcc2]; intro y hy; cases hy) (by show names.length + 3 < R.frames; omega)
          (by
            have e1 : (F0 m (pc + 4) ls [.ref T.heap.size, .ref T.heap.size]).monitorRoom = 0 := rfl
            have e2 : ((Value.ref T.heap.size :: ([] : List Value)).map fun v => v.category).sum = 1 := rfl
            rw [e1, e2]
            show _ ≤ R.locals
            omega) a4
        have hsame2 : T.sameButNew ({ U with vm := T.vm } : State) [] (0 + 1) (0 + 6) := ab_sb hsame
        have hlow : ∀ q, q < T.heap.size → U.heap[q]? = T.heap[q]? := fun q hq => ab_sb_heap hsame2 hq
        have hUs : U.heap.size = T.heap.size + 1 := by
          have z1 : U.heap.size ≤ T.heap.size + (0 + 1) := hsame2.2.2.1
          have z2 := (Array.getElem?_eq_some_iff.mp hcE).1
          omega
        have hsame3 : s.sameButNew ({ U with vm := s.vm } : State) (locs ++ []) (cells + (0 + 1)) (slots + (0 + 6)) := X.same.trans (hsame2.setVm s.vm)
        have hRU : ab_R B od D dA cl NC NS s.heap n0 z0 (h ++ [.inr (ce, List.replicate 6 .null)]) U.heap locs (cells + 1) (slots + 6) := by
          refine hR.push rfl hc1 hc2 ⟨r, hr, ?_⟩ hUs hlow
          rw [hr0, ← b2]
          refine ⟨cE, hcE, ?_, K.vm, fun k hk => absurd hk (Nat.not_lt_zero _)⟩
          exact Option.some.inj (K.cls.symm.trans (hKC ce r hr).1.2.1)
        refine ⟨U, st1 _ ?_, hrun, ?_, State.WarmedH.trans X.warmed hW, locs, cells + 1, slots + 6, ?_, hRU⟩
        · show Steps p.tables e below (T₁.setTop (F0 m (pc + 3) ls [.ref T.heap.size])) U
          jvm_step X₁.here [X₁.here.top, hx, d3, Value.category]
          exact hsteps
        · show Ended U below (.threw (B + h.length))
          rw [← b2]; exact hend
        · rw [List.append_nil] at hsame3
          exact hsame3
      · cases hth
    · cases hth
  · cases hth
end AB7A
