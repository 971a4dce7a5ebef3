/-! throws of one's own: throw new E("text"), throw new E() -/
/-- what the words say of an exception's entries: its class (9), its constructor with a text (10) -/
def ab_isZ (w : Cond) : Prop := w = .laysStatic Bundle.tN "UNASSIGNED_STACK" Bundle.steD ∨ w = .laysStatic Bundle.tN "SUPPRESSED_SENTINEL" Bundle.listD ∨ w = .isRef (.static Bundle.tN "UNASSIGNED_STACK" Bundle.steD) ∨ w = .isRef (.static Bundle.tN "SUPPRESSED_SENTINEL" Bundle.listD)
def ab_eB (own : String) (ic : Nat) (C : String) : List Cond := [.methodLink own ic (Bundle.initS C), .instantiable C 6, .selects C Bundle.tFill0 Bundle.tFill0, .selects C Bundle.tFill Bundle.tFill, .lays C Bundle.tN "cause" "Ljava/lang/Throwable;", .lays C Bundle.tN "stackTrace" Bundle.steD, .lays C Bundle.tN "suppressedExceptions" Bundle.listD, .lays C Bundle.tN "detailMessage" "Ljava/lang/String;", .isRef (.static Bundle.tN "UNASSIGNED_STACK" Bundle.steD), .isRef (.static Bundle.tN "SUPPRESSED_SENTINEL" Bundle.listD), .fieldLink Bundle.tN 198 Bundle.tN "backtrace" "Ljava/lang/Object;", .lays Bundle.tN Bundle.tN "backtrace" "Ljava/lang/Object;", .lays C Bundle.tN "backtrace" "Ljava/lang/Object;"]
/-- the words of an exception whose constructor with a text hands it on to that of Y, by its own pool's entry ix -/
def ab_eA (own : String) (ic : Nat) (C Y : String) (ix : Nat) (rx : ByteArray) (names : List String) : List Cond := Bundle.throwableAtoms ++ (Bundle.throwableSAtoms ++ (Bundle.passSAtoms C Y ix rx ++ (Bundle.chainSAtoms Y names ++ ab_eB own ic C)))
set_option maxHeartbeats 2000000 in
theorem ab_ctorX {p : Program} {l : Launch} {e : Env} {R : Room} {s : State} {m₀ : MethodId} {args : Array Value} {below : List Frame} {meth : Method} {c : Code} {W : State} {cells slots : Nat} (X : Stand p l e R s m₀ args below meth c W [] cells slots) (hx : p.tables.exec = Jvm.exec) (htr : e.platform.stackTraces = false) {own C Y : String} {names : List String} {ic ix : Nat} {rx : ByteArray}
    (x0 : decode rx 0 = .ok (.aload_n 0, 1)) (x1 : decode rx 1 = .ok (.aload_n 1, 1)) (x2 : decode rx 2 = .ok (.invokespecial ix, 3)) (x5 : decode rx 5 = .ok (.return_, 1))
    (hown : s.vm.findClass own = some m₀.cls) (hC : Bundle.fit C = true) (hN : ∀ n ∈ Y :: names, Bundle.fit n = true) (h : ∀ w ∈ ab_eA own ic C Y ix rx names, w.before args s = true)
    {a : Addr} {cX : ClassId} {kX : Class} (hfX : s.vm.findClass C = some cX) (hkX : s.vm.classes[cX]? = some kX) (hcell : W.heap[a]? = some (freshCell cX kX)) (hnew : s.heap.size ≤ a) {msg : Value} (hmsg : msg.isRef = true)
    {g : JFrame} (hg : g.method = m₀) (hsize : g.locals.size = c.maxLocals) (hlk : g.locked = none) (hen : g.entered = []) (hst : g.stack = [msg, .ref a, .ref a])
    (d6 : decode c.code g.pc = .ok (.invokespecial ic, 3)) (d9 : decode c.code (g.pc + 3) = .ok (.athrow, 1)) (hout : ∀ x ∈ c.exceptionTable.toList, covers x (g.pc + 3) = false)
    (hRf : names.length + 4 < R.frames) (hRl : 2 * g.monitorRoom + 1 + (13 * (names.length + 2) + 42) ≤ R.locals) (hlocks : meth.locks = false) :
    ∃ U : State, Steps p.tables e below (W.setTop g) U ∧ U.status = .running ∧ Ended U below (.threw a) ∧ s.WarmedH U.vm ∧ s.sameButNew ({ U with vm := s.vm } : State) [] cells slots ∧ ∃ cE : Cell, U.heap[a]? = some cE ∧ cE.cls = cX ∧ cE.vm = .none := by
  have hpl : e.platform.magicAccessors = ({} : Platform).magicAccessors := by rw [X.admits.platform]
  have h1 : ∀ w ∈ Bundle.throwableAtoms, w.before args s = true := fun w hw => h w (List.mem_append_left _ hw)
  have h2 : ∀ w ∈ Bundle.throwableSAtoms, w.before args s = true := fun w hw => h w (List.mem_append_right _ (List.mem_append_left _ hw))
  have h3 : ∀ w ∈ Bundle.passSAtoms C Y ix rx, w.before args s = true := fun w hw => h w (List.mem_append_right _ (List.mem_append_right _ (List.mem_append_left _ hw)))
  have h4 : ∀ w ∈ Bundle.chainSAtoms Y names, w.before args s = true := fun w hw => h w (List.mem_append_right _ (List.mem_append_right _ (List.mem_append_right _ (List.mem_append_left _ hw))))
  have h5 : ∀ w, w ∈ ab_eB own ic C → w.holds args s none s [] = true := fun w hw => h w (List.mem_append_right _ (List.mem_append_right _ (List.mem_append_right _ (List.mem_append_right _ hw))))
  have h31 : (Cond.instanceMethod (Bundle.initS C)).before args s = true := h3 _ (by simp [Bundle.passSAtoms])
  have h32 : (Cond.code (Bundle.initS C) rx 2 none).before args s = true := h3 _ (by simp [Bundle.passSAtoms])
  obtain ⟨T, Z0, L, -, YT⟩ := ThrowableC.of_atoms (args := args) (by rw [X.admits.platform]) (by rw [X.admits.platform]) hpl h1
  obtain ⟨Z, M, LZ, LM, hnZ⟩ := Init0T.ofS_atoms (args := args) hpl L YT h2
  obtain ⟨P0, L0, hP0, hS0⟩ := PassC.ofS_atoms (args := args) (s := s) hpl (X := C) (Y := Y) (Bundle.fit_spec hC).1 (Bundle.fit_spec (hN Y List.mem_cons_self)).2 x0 x1 x2 x5 h3
  obtain ⟨P1, Ps, hlen, L1, hL, hP1, hk1, hk2⟩ := Bundle.chainS (args := args) hpl hnZ names Y (hN Y List.mem_cons_self) (fun n hn => hN n (List.mem_cons_of_mem _ hn)) h4
  have hsup : P0.sup = P1.m := Option.some.inj (hS0.symm.trans hP1)
  have hfound : s.vm.findClass C = some P0.m.cls := findClass_of_methodNamed hP0
  cases Option.some.inj (hfX.symm.trans hfound)
  obtain ⟨c1, kX', hc1, hk, hord, -, -, -⟩ := Cond.instantiable_spec (h5 (.instantiable C 6) (by simp [ab_eB]))
  cases Option.some.inj (hc1.symm.trans hfound)
  cases Option.some.inj (hkX.symm.trans hk)
  have hsel0 : selectMethod e.platform s.vm P0.m.cls T.fill0 = .method T.fill0 := by
    obtain ⟨c2, r2, m2, q1, q2, q3, q4, -⟩ := Cond.selects_spec (h5 (.selects C Bundle.tFill0 Bundle.tFill0) (by simp [ab_eB]))
    cases Option.some.inj (q1.symm.trans hfound)
    cases Option.some.inj (q2.symm.trans (State.methodFound?_of_named YT.fill0 (by decide)))
    cases Option.some.inj (q3.symm.trans YT.fill0)
    rw [Launch.admits_selectMethod X.admits]; exact q4
  have hselF : selectMethod e.platform s.vm P0.m.cls T.fill = .method T.fill := by
    obtain ⟨c2, r2, m2, q1, q2, q3, q4, -⟩ := Cond.selects_spec (h5 (.selects C Bundle.tFill Bundle.tFill) (by simp [ab_eB]))
    cases Option.some.inj (q1.symm.trans hfound)
    cases Option.some.inj (q2.symm.trans (State.methodFound?_of_named YT.fill (by decide)))
    cases Option.some.inj (q3.symm.trans YT.fill)
    rw [Launch.admits_selectMethod X.admits]; exact q4
  obtain ⟨cS0, hcS0, hiss⟩ := YT.statics
  obtain ⟨u0, hu0⟩ := Cond.staticRefV YT.unassigned L.unassignedStatic L.statics hcS0 hiss (h5 (.isRef (.static Bundle.tN "UNASSIGNED_STACK" Bundle.steD)) (by simp [ab_eB]))
  obtain ⟨sen, hsen⟩ := Cond.staticRefV YT.sentinel L.sentinelStatic L.statics hcS0 hiss (h5 (.isRef (.static Bundle.tN "SUPPRESSED_SENTINEL" Bundle.listD)) (by simp [ab_eB]))
  obtain ⟨ci8, i8, fB, hk8, hg8, ha8, hsB, -, hnB, htB, hffB⟩ := Cond.ownField (t := .object "java/lang/Object") YT.found L.cls (by decide +kernel) (h5 (.fieldLink Bundle.tN 198 Bundle.tN "backtrace" "Ljava/lang/Object;") (by simp [ab_eB])) (h5 (.lays Bundle.tN Bundle.tN "backtrace" "Ljava/lang/Object;") (by simp [ab_eB])) e.platform hpl
  obtain ⟨cS, hcS', heS, -, hkeep⟩ := X.same.2.2.2.2.2 T.aS cS0 hcS0
  have hcS : W.heap[T.aS]? = some cS := hcS'
  have hkS : cS.vm ≠ .unknown := by
    rw [heS]; intro hu
    rw [show cS0.vm = .unknown from hu] at hiss
    cases hiss
  have hneS : T.aS ≠ a := Nat.ne_of_lt (Nat.lt_of_lt_of_le (Array.getElem?_eq_some_iff.mp hcS0).1 hnew)
  obtain ⟨iM, hffM⟩ := YT.msg
  obtain ⟨tyC, dC, hdC, hdnC⟩ := Cond.laysAt hfound hk YT.cause (h5 (.lays C Bundle.tN "cause" "Ljava/lang/Throwable;") (by simp [ab_eB]))
  obtain ⟨tyS, dS, hdS, hdnS⟩ := Cond.laysAt hfound hk YT.stack (h5 (.lays C Bundle.tN "stackTrace" Bundle.steD) (by simp [ab_eB]))
  obtain ⟨tyP, dP, hdP, hdnP⟩ := Cond.laysAt hfound hk YT.supp (h5 (.lays C Bundle.tN "suppressedExceptions" Bundle.listD) (by simp [ab_eB]))
  obtain ⟨tyM, dM, hdM, hdnM⟩ := Cond.laysAt hfound hk hffM (h5 (.lays C Bundle.tN "detailMessage" "Ljava/lang/String;") (by simp [ab_eB]))
  obtain ⟨tyB, dB, hdB, hdnB⟩ := Cond.laysAt hfound hk hffB (h5 (.lays C Bundle.tN "backtrace" "Ljava/lang/Object;") (by simp [ab_eB]))
  have bC := Cond.laysApart hdB hdC hdnB hdnC (by rw [hnB, YT.causeName]; decide)
  have bS := Cond.laysApart hdB hdS hdnB hdnS (by rw [hnB, YT.stackName]; decide)
  have bP := Cond.laysApart hdB hdP hdnB hdnP (by rw [hnB, YT.suppName]; decide)
  have hskip : SkipFacts T e.platform s (fun u => u) u0 ((preparedCellV T.toThrowableT (freshCell P0.m.cls kX) a u0 sen).withEntry W.cur) := by
    refine ⟨{ ci198 := ci8, i198 := i8, fBack := fB }, ⟨hk8, hg8, ha8, hsB⟩, ?_, fun _ _ => rfl⟩
    have z := fresh_default (c := P0.m.cls) tyB
    rw [htB] at z
    simpa [preparedCellV, Cell.setSlot, Cell.withEntry, Array.getElem?_setIfInBounds, bC, bS, bP, bC.symm, bS.symm, bP.symm, defaultValue] using z
  obtain ⟨tm, -, -, -, vm₁, hnC, -, -, -, -, -, -, -, hW₁, st1⟩ := Steps.initColdS (tb := p.tables) (e := e) (below := below) (s := s) (U := W) X.here hx X.warmed hpl hown (t := Bundle.initS C) rfl rfl (Bundle.fit_spec hC).2 (h5 (.methodLink own ic (Bundle.initS C)) (by simp [ab_eB])) h31 (bytes := rx) (maxL := 2) h32 (f := g) hg (a := a) (msg := msg) (rest := [.ref a]) hst d6
  cases Option.some.inj (hnC.symm.trans hP0)
  obtain ⟨vm₂, X₂, st2⟩ := (X.noted hW₁).ctorMessageOffV hx (g := { g with stack := [.ref a] }) hg hsize T L Z LZ M LM (P0 :: P1 :: Ps)
    (fun P hP => by
      rcases List.mem_cons.mp hP with rfl | hP
      · exact L0
      · rcases List.mem_cons.mp hP with rfl | hP
        · exact L1
        · exact hL P hP) ⟨hsup, hk1, hk2⟩ (u0 := u0) (sen := sen) (self := a) hmsg (cell := freshCell P0.m.cls kX) (cellS := cS)
    hcell (fun _ => by simp) (by simp) rfl rfl hsel0 hselF hcS hneS hkS (by rw [hkeep _ (by simp)]; exact hu0) (by rw [hkeep _ (by simp)]; exact hsen)
    (Takes.of_laid hk hord tyC (by rw [YT.causeType]; rfl)) (Takes.of_laid hk hord tyS (by rw [YT.stackType]; exact fits_refV_array _ u0)) (Takes.of_laid hk hord tyP (by rw [YT.suppType]; exact fits_refV_object _ sen))
    (Takes.of_laid hk hord tyM (by rw [YT.msgType]; exact fits_refV_object _ ⟨msg, hmsg⟩)) YT.objLocals hskip htr [] d6
    (by simp only [List.length_cons, hlen]; omega) (by
      have e2 : (([Value.ref a] : List Value).map fun v => v.category).sum = 1 := rfl
      simp only [List.length_cons, hlen]
      show 2 * g.monitorRoom + (([Value.ref a] : List Value).map fun v => v.category).sum + _ ≤ _
      rw [e2]; omega)
  obtain ⟨hwalk, hrun, hended, hWU, hsame⟩ := X₂.athrowLeaves hx (g := { g with stack := [.ref a], pc := g.pc + 3 }) hg hlk hen hout (a := a) (rest := []) rfl d9
  have hlt : a < ((W.setVm vm₁).setVm vm₂).heap.size := (Array.getElem?_eq_some_iff.mp hcell).1
  have hU := heapAt_setCell_self (s := (W.setVm vm₁).setVm vm₂) (plainBareV T.toThrowableT (freshCell P0.m.cls kX) a u0 sen msg) hlt
  refine ⟨_, st1 _ (fun acts => ?_), hrun, hended, hWU, hsame.weaken (fun y hy hlt' => ?_) (Nat.le_refl _) (Nat.le_refl _), _, hU, rfl, rfl⟩
  · rw [doInvoke_state]
    exact st2 _ hwalk
  · exfalso
    have hb : y.base = a := by
      simp only [List.nil_append, List.mem_cons, List.not_mem_nil, or_false] at hy
      rcases hy with rfl | rfl | rfl | rfl | rfl <;> rfl
    rw [hb] at hlt'
    exact Nat.not_lt.mpr hnew hlt'
def ab_p9 (cl : List vw_C) (Ts : List Cond) (own : String) (x : Nat) (n : ab_N) : Prop := match n with
  | (9, ce, _, _) => ∃ r : vw_C, cl[ce]? = some r ∧ Cond.classLink own x r.1 ∈ Ts ∧ Cond.instantiable r.1 6 ∈ Ts ∧ Cond.initialized r.1 ∈ Ts
  | (10, ce, _, _) => ∃ (r : vw_C) (Y : String) (names : List String) (ix : Nat) (rx : ByteArray), cl[ce]? = some r ∧ r.2.2 = 0 ∧ Bundle.fit r.1 = true ∧ names.length ≤ 3 ∧ (∀ n ∈ Y :: names, Bundle.fit n = true) ∧ (decode rx 0 = .ok (.aload_n 0, 1) ∧ decode rx 1 = .ok (.aload_n 1, 1) ∧ decode rx 2 = .ok (.invokespecial ix, 3) ∧ decode rx 5 = .ok (.return_, 1)) ∧ ∀ w ∈ ab_eA own x r.1 Y ix rx names, ab_isZ w ∨ w ∈ Ts
  | (14, ce, _, _) => ∃ (r : vw_C) (names : List String), cl[ce]? = some r ∧ r.2.2 = 0 ∧ Bundle.fit r.1 = true ∧ names.length ≤ 4 ∧ (∀ n ∈ names, Bundle.fit n = true) ∧ ∀ w ∈ Bundle.ownAtoms0 own x r.1 names, ab_isZ w ∨ w ∈ Ts
  | _ => True
section AB7A
variable {p : Program} {l : Launch} {e : Env} {B NC NS : Nat} {od : Nat → Nat} {D : va_G} {dA : Nat → ClassId} {cl : List vw_C} {ct : Nat → Nat → FieldType} {cd : Nat → List Value} {aty : List FieldType} {oa : Nat → Option (FieldType × Nat × (Nat → Value))} {oo : Nat → Option (Nat × List Value)} {sb : List (Nat × Nat)} {Ts : List Cond} {nc : List (Nat × Nat)} {mt : List ab_M}
set_option maxHeartbeats 8000000 in
theorem ab_TH_ok (hx : p.tables.exec = Jvm.exec) (hnt : l.stackTraces = false) (hSF : ab_SF cl ct cd aty sb Ts mt) (h9 : ∀ M ∈ mt, ∀ x n, my_p M x = some n → ab_p9 cl Ts (my_y M).cls x n) : ab_TH p l e B NC NS od D dA cl aty oa oo Ts nc mt := by
  intro M d R s m args below meth c H locs cells slots n0 z0 pc ce x1 x2 x3 ls h hM hA hls hth hc1 hc2 hR
  obtain ⟨a1, a2, a3, a4, a5, a6, a7, a8, a9, a10, a11, a12, a13, ls1, ls2, aOO, aSZ, aMI⟩ := id hA
  obtain ⟨hsb, hCS, hgood, hus, hmws, hms⟩ := id hSF
  obtain ⟨hck, hpl⟩ := hms M hM
  unfold ab_th at hth
  split at hth
  · rename_i i0 l0 t0 l3 t3 i4 l4 t4 i6 l6 t6 l9 t9 e0 e3 e4 e6 e9
    split at hth
    · rename_i ce' _ _ _ _ w cf _ _ p0 p4 p6
      split at hth
      · rename_i hcc
        obtain ⟨hcc1, hcc2⟩ := hcc
        cases hth
        subst hcc1
        obtain ⟨d0, q0, -⟩ := ab_fe_ok hck e0
        obtain ⟨d3, q3, -⟩ := ab_fe_ok hck e3
        obtain ⟨d4, q4, -⟩ := ab_fe_ok hck e4
        obtain ⟨d6, q6, -⟩ := ab_fe_ok hck e6
        obtain ⟨d9, q9, -⟩ := ab_fe_ok hck e9
        have k0 : l0 = 3 := by rcases q0 with q | q; exact absurd q (by simp [ab_len]); exact q
        have k3 : l3 = 1 := by rcases q3 with q | q; exact absurd q (by simp [ab_len]); exact q
        have k4 : l4 = 2 := by rcases q4 with q | q; exact absurd q (by simp [ab_len]); exact q
        have k6 : l6 = 3 := by rcases q6 with q | q; exact absurd q (by simp [ab_len]); exact q
        have k9 : l9 = 1 := by rcases q9 with q | q; exact absurd q (by simp [ab_len]); exact q
        subst k0 k3 k4 k6 k9
        rw [← a1] at d0 d3 d4 d6 d9
        obtain ⟨r, hr, w1, w2, w3⟩ := h9 M hM _ _ p0
        obtain ⟨r', YY, names, ix, rx, hr', hr0, hfit, hnl, hnf, ⟨x0, x1, x2, x5⟩, hown9⟩ := h9 M hM _ _ p6
        cases hr.symm.trans hr'
        intro T hT X
        subst hT
        obtain ⟨b1, b2, b3, b4, b5, b6, b7⟩ := id hR
        have X0 := ab_rebase X (R' := { frames := R.frames, cells := R.cells - cells, slots := R.slots - slots, locals := R.locals }) (Nat.le_refl _) (Nat.le_refl _) (by show cells + (R.cells - cells) ≤ R.cells; omega) (by show slots + (R.slots - slots) ≤ R.slots; omega)
        have hF' : ab_F D dA cl aty od Ts nc mt (T.setFrames (.invoking m args :: below)) := a8.warm hgood hus X.warmed
        have ls1' : ab_LS B Bundle.tN "UNASSIGNED_STACK" Bundle.steD (T.setFrames (.invoking m args :: below)) (T.setFrames (.invoking m args :: below)).heap := ls1.kept X.warmed.alike b3.2.1
        have ls2' : ab_LS B Bundle.tN "SUPPRESSED_SENTINEL" Bundle.listD (T.setFrames (.invoking m args :: below)) (T.setFrames (.invoking m args :: below)).heap := ls2.kept X.warmed.alike b3.2.1
        obtain ⟨hTs, hKC, hKA, hNCs, hAO, hST⟩ := id hF'
        have hown : (T.setFrames (.invoking m args :: below)).vm.findClass (my_y M).cls = some m.cls := by
          show T.vm.findClass _ = _
          rw [X.warmed.alike.findClass]; exact a5
        have htr : e.platform.stackTraces = false := by rw [X.admits.platform]; exact hnt
        obtain ⟨tx, hZ⟩ := hST M hM _ _ _ _ p4
        obtain ⟨vm₁, cX, kX, hfX, hkX, -, -, X₁, st1⟩ := X0.newCold hx (n := 6) hown (va_Nw.use rfl (hTs _ w1)) (va_Nw.use rfl (hTs _ w2)) (va_Nw.use rfl (hTs _ w3)) (g := F0 m pc ls []) rfl d0 (by show 0 + 1 ≤ R.cells - cells; omega) (by show 0 + 6 ≤ R.slots - slots; omega)
        have hcell : ((T.setVm vm₁).pushCell { cls := cX, slots := kX.instanceTypes.map defaultValue, vm := .none }).heap[T.heap.size]? = some (freshCell cX kX) := State.heap_pushCell_size _ _
        generalize hT1 : (T.setVm vm₁).pushCell { cls := cX, slots := kX.instanceTypes.map defaultValue, vm := .none } = T₁ at X₁ st1 hcell
        have hat : ∀ w ∈ ab_eA (my_y M).cls x3 r.1 YY ix rx names, w.before args (T.setFrames (.invoking m args :: below)) = true := by
          intro w hw
          rcases hown9 w hw with hz | hz
          · rcases hz with rfl | rfl | rfl | rfl
            · exact ls1'.lays args
            · exact ls2'.lays args
            · exact ls1'.isRef args
            · exact ls2'.isRef args
          · exact va_Nw.use (hgood w hz).1 (hTs w hz)
        have st2 := X₁.ldcString hx hown (text := tx) (a := od w.toNat) (args := args) hZ.1 hZ.2 (g := F0 m (pc + 4) ls [.ref T.heap.size, .ref T.heap.size]) rfl d4
        obtain ⟨U, hsteps, hrun, hend, hW, hsame, cE, hcE, K1, K2⟩ := ab_ctorX X₁ hx htr x0 x1 x2 x5 hown hfit hnf hat hfX hkX hcell (Nat.le_refl _) (msg := .ref (od w.toNat)) rfl
          (g := F0 m (pc + 6) ls [.ref (od w.toNat), .ref T.heap.size, .ref T.heap.size]) rfl (hls.trans a2.symm) rfl rfl rfl d6 d9 (by rw [a6, hcc2]; intro y hy; cases hy) (by show names.length + 4 < R.frames; omega)
          (by
            have e1 : (F0 m (pc + 6) ls [.ref (od w.toNat), .ref T.heap.size, .ref T.heap.size]).monitorRoom = 0 := rfl
            rw [e1]
            show _ ≤ R.locals
            omega) a4
        have hsame2 : T.sameButNew ({ U with vm := T.vm } : State) [] (0 + 1) (0 + 6) := ab_sb hsame
        have hlow : ∀ q, q < T.heap.size → U.heap[q]? = T.heap[q]? := fun q hq => ab_sb_heap hsame2 hq
        have hUs : U.heap.size = T.heap.size + 1 := by
          have z1 : U.heap.size ≤ T.heap.size + (0 + 1) := hsame2.2.2.1
          have z2 := (Array.getElem?_eq_some_iff.mp hcE).1
          omega
        have hsame3 : s.sameButNew ({ U with vm := s.vm } : State) (locs ++ []) (cells + (0 + 1)) (slots + (0 + 6)) := X.same.trans (hsame2.setVm s.vm)
        have hRU : ab_R B od D dA cl NC NS s.heap n0 z0 (h ++ [.inr (ce, List.replicate 6 .null)]) U.heap locs (cells + 1) (slots + 6) := by
          refine hR.push rfl hc1 hc2 ⟨r, hr, ?_⟩ hUs hlow
          rw [hr0, ← b2]
          refine ⟨cE, hcE, ?_, K2, fun k hk => absurd hk (Nat.not_lt_zero _)⟩
          rw [K1]; exact Option.some.inj (hfX.symm.trans (hKC ce r hr).1.2.1)
        refine ⟨U, st1 _ ?_, hrun, ?_, State.WarmedH.trans X.warmed hW, locs, cells + 1, slots + 6, ?_, hRU⟩
        · show Steps p.tables e below (T₁.setTop (F0 m (pc + 3) ls [.ref T.heap.size])) U
          jvm_step X₁.here [X₁.here.top, hx, d3, Value.category]
          exact st2 _ hsteps
        · show Ended U below (.threw (B + h.length))
          rw [← b2]; exact hend
        · rw [List.append_nil] at hsame3
          exact hsame3
      · cases hth
    · cases hth
  · cases hth
set_option maxHeartbeats 8000000 in
theorem ab_TH0_ok (hx : p.tables.exec = Jvm.exec) (hnt : l.stackTraces = false) (hSF : ab_SF cl ct cd aty sb Ts mt) (h9 : ∀ M ∈ mt, ∀ x n, my_p M x = some n → ab_p9 cl Ts (my_y M).cls x n)   : ab_TH0 p l e B NC NS od D dA cl aty oa oo Ts nc mt := by
  intro M d R s m args below meth c H locs cells slots n0 z0 pc ce x1 x3 ls h hM hA hls hth hc1 hc2 hR
  obtain ⟨a1, a2, a3, a4, a5, a6, a7, a8, a9, a10, a11, a12, a13, ls1, ls2, aOO, aSZ, aMI⟩ := id hA
  obtain ⟨hsb, hCS, hgood, hus, hmws, hms⟩ := id hSF
  obtain ⟨hck, hpl⟩ := hms M hM
  unfold ab_th0 at hth
  split at hth
  · rename_i i0 l0 t0 l3 t3 i6 l6 t6 l9 t9 e0 e3 e6 e9
    split at hth
    · rename_i ce' _ _ cf _ _ p0 p6
      split at hth
      · rename_i hcc
        obtain ⟨hcc1, hcc2⟩ := hcc
        cases hth
        subst hcc1
        obtain ⟨d0, q0, -⟩ := ab_fe_ok hck e0
        obtain ⟨d3, q3, -⟩ := ab_fe_ok hck e3
        obtain ⟨d6, q6, -⟩ := ab_fe_ok hck e6
        obtain ⟨d9, q9, -⟩ := ab_fe_ok hck e9
        have k0 : l0 = 3 := by rcases q0 with q | q; exact absurd q (by simp [ab_len]); exact q
        have k3 : l3 = 1 := by rcases q3 with q | q; exact absurd q (by simp [ab_len]); exact q
        have k6 : l6 = 3 := by rcases q6 with q | q; exact absurd q (by simp [ab_len]); exact q
        have k9 : l9 = 1 := by rcases q9 with q | q; exact absurd q (by simp [ab_len]); exact q
        subst k0 k3 k6 k9
        rw [← a1] at d0 d3 d6 d9
        obtain ⟨r, hr, w1, w2, w3⟩ := h9 M hM _ _ p0
        obtain ⟨r', names, hr', hr0, hfit, hnl, hnf, hown9⟩ := h9 M hM _ _ p6
        cases hr.symm.trans hr'
        intro T hT X
        subst hT
        obtain ⟨b1, b2, b3, b4, b5, b6, b7⟩ := id hR
        have X0 := ab_rebase X (R' := { frames := R.frames, cells := R.cells - cells, slots := R.slots - slots, locals := R.locals }) (Nat.le_refl _) (Nat.le_refl _) (by show cells + (R.cells - cells) ≤ R.cells; omega) (by show slots + (R.slots - slots) ≤ R.slots; omega)
        have hF' : ab_F D dA cl aty od Ts nc mt (T.setFrames (.invoking m args :: below)) := a8.warm hgood hus X.warmed
        have ls1' : ab_LS B Bundle.tN "UNASSIGNED_STACK" Bundle.steD (T.setFrames (.invoking m args :: below)) (T.setFrames (.invoking m args :: below)).heap := ls1.kept X.warmed.alike b3.2.1
        have ls2' : ab_LS B Bundle.tN "SUPPRESSED_SENTINEL" Bundle.listD (T.setFrames (.invoking m args :: below)) (T.setFrames (.invoking m args :: below)).heap := ls2.kept X.warmed.alike b3.2.1
        obtain ⟨hTs, hKC, hKA, hNCs, hAO, hST⟩ := id hF'
        have hown : (T.setFrames (.invoking m args :: below)).vm.findClass (my_y M).cls = some m.cls := by
          show T.vm.findClass _ = _
          rw [X.warmed.alike.findClass]; exact a5
        have htr : e.platform.stackTraces = false := by rw [X.admits.platform]; exact hnt
        obtain ⟨vm₁, cX, kX, hfX, hkX, -, -, X₁, st1⟩ := X0.newCold hx (n := 6) hown (va_Nw.use rfl (hTs _ w1)) (va_Nw.use rfl (hTs _ w2)) (va_Nw.use rfl (hTs _ w3)) (g := F0 m pc ls []) rfl d0 (by show 0 + 1 ≤ R.cells - cells; omega) (by show 0 + 6 ≤ R.slots - slots; omega)
        have hcell : ((T.setVm vm₁).pushCell { cls := cX, slots := kX.instanceTypes.map defaultValue, vm := .none }).heap[T.heap.size]? = some (freshCell cX kX) := State.heap_pushCell_size _ _
        generalize hT1 : (T.setVm vm₁).pushCell { cls := cX, slots := kX.instanceTypes.map defaultValue, vm := .none } = T₁ at X₁ st1 hcell
        have hat : ∀ w ∈ Bundle.ownAtoms0 (my_y M).cls x3 r.1 names, w.before args (T.setFrames (.invoking m args :: below)) = true := by
          intro w hw
          rcases hown9 w hw with hz | hz
          · rcases hz with rfl | rfl | rfl | rfl
            · exact ls1'.lays args
            · exact ls2'.lays args
            · exact ls1'.isRef args
            · exact ls2'.isRef args
          · exact va_Nw.use (hgood w hz).1 (hTs w hz)
        obtain ⟨U, hsteps, hrun, hend, hW, hsame, cE, hcE, K⟩ := X₁.ctorThrow0 hx htr hown hfit hnf hat (fun y hy => by cases hy) hfX hkX hcell (Nat.le_refl _)
          (g := F0 m (pc + 4) ls [.ref T.heap.size, .ref T.heap.size]) rfl (hls.trans a2.symm) rfl rfl (rest := []) rfl d6 d9 (by rw [a6, hcc2]; intro y hy; cases hy) (by show names.length + 3 < R.frames; omega)
          (by
            have e1 : (F0 m (pc + 4) ls [.ref T.heap.size, .ref T.heap.size]).monitorRoom = 0 := rfl
            have e2 : ((Value.ref T.heap.size :: ([] : List Value)).map fun v => v.category).sum = 1 := rfl
            rw [e1, e2]
            show _ ≤ R.locals
            omega) a4
        have hsame2 : T.sameButNew ({ U with vm := T.vm } : State) [] (0 + 1) (0 + 6) := ab_sb hsame
        have hlow : ∀ q, q < T.heap.size → U.heap[q]? = T.heap[q]? := fun q hq => ab_sb_heap hsame2 hq
        have hUs : U.heap.size = T.heap.size + 1 := by
          have z1 : U.heap.size ≤ T.heap.size + (0 + 1) := hsame2.2.2.1
          have z2 := (Array.getElem?_eq_some_iff.mp hcE).1
          omega
        have hsame3 : s.sameButNew ({ U with vm := s.vm } : State) (locs ++ []) (cells + (0 + 1)) (slots + (0 + 6)) := X.same.trans (hsame2.setVm s.vm)
        have hRU : ab_R B od D dA cl NC NS s.heap n0 z0 (h ++ [.inr (ce, List.replicate 6 .null)]) U.heap locs (cells + 1) (slots + 6) := by
          refine hR.push rfl hc1 hc2 ⟨r, hr, ?_⟩ hUs hlow
          rw [hr0, ← b2]
          refine ⟨cE, hcE, ?_, K.vm, fun k hk => absurd hk (Nat.not_lt_zero _)⟩
          exact Option.some.inj (K.cls.symm.trans (hKC ce r hr).1.2.1)
        refine ⟨U, st1 _ ?_, hrun, ?_, State.WarmedH.trans X.warmed hW, locs, cells + 1, slots + 6, ?_, hRU⟩
        · show Steps p.tables e below (T₁.setTop (F0 m (pc + 3) ls [.ref T.heap.size])) U
          jvm_step X₁.here [X₁.here.top, hx, d3, Value.category]
          exact hsteps
        · show Ended U below (.threw (B + h.length))
          rw [← b2]; exact hend
        · rw [List.append_nil] at hsame3
          exact hsame3
      · cases hth
    · cases hth
  · cases hth
end AB7A
