/-! handlers: the search of a method's table, its catch types resolved or not -/
section AB6A
variable {e : Env} {s u : State} {g : JFrame} {a : Addr}
/-- a row of the table whose catch type is resolved by the search itself -/
theorem ab_go_cold {x : ExceptionTableEntry} {t : List ExceptionTableEntry} {c : ClassId} {vm' : Vm} {Q : Handler → Pre} {E : CtlPost} {d : Bool} {acts : List Action} (hx : covers x g.pc = true) (h0 : x.catchType ≠ 0)
    (hg : (Jvm.resolveClass g.method.cls x.catchType).Gives e.toSetting u.vm (.ok c) vm') (hr : vm'.classReady g.method.cls x.catchType c) (hsz : vm'.classes.size ≤ u.vm.classes.size) :
    wp (findHandler.go g a (x :: t)) Q E e d acts u ↔ wp (findHandler.go g a (x :: t)) Q E e d acts (u.setVm vm') := by
  obtain ⟨ha, ht⟩ := hg.op (op := VmOp.resolveClass g.method.cls x.catchType) rfl
  simp only [covers] at hx
  obtain ⟨k, hkd, hres⟩ := hr
  have q := resolveClass_memo (vm := vm') e hkd hres
  have l1 : (VmOp.resolveClass g.method.cls x.catchType).lands e u = .done (u.setVm vm') := VmOp.lands_eq ht hsz
  have l2 : (VmOp.resolveClass g.method.cls x.catchType).lands e (u.setVm vm') = .done (u.setVm vm') := VmOp.lands_eq (s := u.setVm vm') q.2 (Nat.le_refl _)
  have q1 : (VmOp.resolveClass g.method.cls x.catchType).answer e (u.setVm vm').vm = .ok c := q.1
  simp [findHandler.go, hx, h0, ha, l1, l2, q1, q.1, VmOp.dirties, VmOp.acts]
/-- what the search gives, and the tables that it leaves -/
def ab_Fd (e : Env) (u : State) (g : JFrame) (a : Addr) (hd : Handler) (vm' : Vm) : Prop :=
  ∀ (Q : Handler → Pre) (E : CtlPost) (d : Bool) (acts : List Action), wp (findHandler g a) Q E e d acts u ↔ Q hd d acts (u.setVm vm')
theorem ab_step_catch {r : List Frame} {pc : Nat} {vm' : Vm} (hfind : ab_Fd e u g a (.found pc) vm') :
    (stepThrowing e u a (.java g :: r)).Is ((u.setVm vm').setFrames (.java { g with pc := pc, stack := [.ref a] } :: r)) [] := by
  simp only [stepThrowing, searchFrame, vmDo]
  generalize hr : Sem.go _ e false [] u = res
  obtain ⟨as, rfl, ha⟩ := Sem.eq_ok_of hr (a := Handler.found pc) (s' := u.setVm vm') (acts' := []) (by simp [hfind _ _ _ _])
  exact ⟨rfl, ha⟩
theorem ab_caught {tb : Tables} {T target : State} {c : Code} {below : List Frame} {pc : Nat} {vm' : Vm} (h : At T g.method c below) (hfind : ab_Fd e ((T.setTop g).pushFrame (.throwing a)) g a (.found pc) vm')
    (hrest : Steps tb e below ((T.setVm vm').setTop { g with pc := pc, stack := [.ref a] }) target) :
    Steps tb e below ((T.setTop g).pushFrame (.throwing a)) target := by
  obtain ⟨hgo, hw⟩ := h.throwing a
  refine Steps.head hgo hw ?_
  rw [stepThread_throwing (frames_entered h.top _), (ab_step_catch (u := (T.setTop g).pushFrame (.throwing a)) hfind).1]
  obtain ⟨g₀, hg⟩ := Option.isSome_iff_exists.mp h.top
  obtain ⟨r, hr⟩ := State.topJava?_eq_some.mp hg
  have hr' : (T.setVm vm').frames = .java g₀ :: r := hr
  rw [State.setTop_of_frames _ hr'] at hrest
  have e0 : (((T.setTop g).pushFrame (.throwing a)).setVm vm').setFrames (.java { g with pc := pc, stack := [.ref a] } :: T.frames.tail) = (T.setVm vm').setFrames (.java { g with pc := pc, stack := [.ref a] } :: r) := by
    rw [hr]
    show (((T.setTop g).pushFrame (.throwing a)).setFrames _).setVm vm' = (T.setFrames _).setVm vm'
    rw [State.pushFrame, State.setFrames_setFrames, State.setTop_of_frames _ hr, State.setFrames_setFrames]
    rfl
  rw [e0]
  exact hrest
variable {D : va_G} {cl : List vw_C} {Ts : List Cond} {M : ab_M} {nc : List (Nat × Nat)} {own : String}
/-- what the words say of a catch type's entry -/
def ab_p11 (cl : List vw_C) (Ts : List Cond) (own : String) (x : Nat) (n : ab_N) : Prop := match n with
  | (11, cj, _, _) => x ≠ 0 ∧ ∃ r : vw_C, cl[cj]? = some r ∧ Cond.classLink own x r.1 ∈ Ts
  | _ => True
def ab_NCs (D : va_G) (nc : List (Nat × Nat)) (s : State) : Prop := ∀ i j, (i, j) ∈ nc → s.vm.assignable (D.1 i) (D.1 j) = false
theorem ab_srch (hpl : e.platform.magicAccessors = ({} : Platform).magicAccessors) (hown : s.vm.findClass own = some g.method.cls) (hTs : ∀ w ∈ Ts, va_Nw w s) (hKC : ab_KC D cl s) (hNC : ab_NCs D nc s) (hp11 : ∀ x n, my_p M x = some n → ab_p11 cl Ts own x n) {ce hp : Nat} {cell : Cell} (hcls : cell.cls = D.1 ce) (hobj : ∀ k, cell.vm ≠ .statics k) (hce : ∃ r, cl[ce]? = some r) :
    ∀ (hs : List (Nat × Nat × Nat × Nat)) (u : State), s.WarmedH u.vm → u.heap[a]? = some cell → ab_hd M nc g.pc ce hs = some hp → ∃ vm' : Vm, s.WarmedH vm' ∧ ∀ (Q : Handler → Pre) (E : CtlPost) (d : Bool) (acts : List Action), wp (findHandler.go g a (tableOf hs)) Q E e d acts u ↔ Q (.found hp) d acts (u.setVm vm') := by
  intro hs
  induction hs with
  | nil => intro u _ _ h; simp [ab_hd] at h
  | cons q r ih =>
    intro u hW hcell hh
    have et : tableOf (q :: r) = (⟨q.1, q.2.1, q.2.2.1, q.2.2.2⟩ : ExceptionTableEntry) :: tableOf r := rfl
    rw [et]
    unfold ab_hd at hh
    split at hh
    · rename_i hcov
      have hcv : covers (⟨q.1, q.2.1, q.2.2.1, q.2.2.2⟩ : ExceptionTableEntry) g.pc = true := by simp [covers, hcov.1, hcov.2]
      split at hh
      · rename_i cj _ _ hpx
        obtain ⟨hx0, r1, hr1, hl1⟩ := hp11 _ _ hpx
        obtain ⟨c, hfc, hcl⟩ := Cond.classLink_spec (args := #[]) hown (hTs _ hl1) e.platform hpl
        obtain ⟨hg1, hwarm, hready⟩ := State.classEntry (e := e) hW hcl
        generalize u.vm.noted g.method.cls q.2.2.2 (.cls c) = vm₁ at hg1 hwarm hready
        have hsz : vm₁.classes.size ≤ u.vm.classes.size := by
          have e1 := hwarm.alike.2.1
          have e2 := hW.alike.2.1
          omega
        obtain ⟨hKn, -⟩ := hKC cj r1 hr1
        have hcj : c = D.1 cj := Option.some.inj (hfc.symm.trans hKn.2.1)
        obtain ⟨rc, hrc⟩ := hce
        obtain ⟨hKc, -⟩ := hKC ce rc hrc
        obtain ⟨kc, hkc, -⟩ := hKc.2.2
        obtain ⟨kj, hkj, -⟩ := hKn.2.2
        obtain ⟨kc', hkc', -⟩ := hwarm.alike.2.2 _ _ hkc
        obtain ⟨kj', hkj', -⟩ := hwarm.alike.2.2 _ _ hkj
        have hasg : (u.setVm vm₁).vm.assignable cell.cls c = s.vm.assignable (D.1 ce) (D.1 cj) := by
          show vm₁.assignable cell.cls c = _
          rw [hwarm.alike.assignable, hcls, hcj]
        have one : ∀ (Q : Handler → Pre) (E : CtlPost) (d : Bool) (acts : List Action), wp (findHandler.go g a ((⟨q.1, q.2.1, q.2.2.1, q.2.2.2⟩ : ExceptionTableEntry) :: tableOf r)) Q E e d acts u ↔ if s.vm.assignable (D.1 ce) (D.1 cj) = true then Q (.found q.2.2.1) d acts (u.setVm vm₁) else wp (findHandler.go g a (tableOf r)) Q E e d acts (u.setVm vm₁) := by
          intro Q E d acts
          rw [ab_go_cold hcv hx0 hg1 hready hsz, W.findHandler_go_class (s := u.setVm vm₁) (c := c) (cell := cell) hcv hx0 hready hcell hobj ⟨kc', by rw [hcls]; exact hkc'⟩ ⟨kj', by rw [hcj]; exact hkj'⟩, hasg]
        split at hh
        · rename_i hcc
          subst hcc
          cases hh
          refine ⟨vm₁, hwarm, fun Q E d acts => ?_⟩
          rw [one, if_pos (va_assign hKc.2)]
        · split at hh
          · rename_i hin
            obtain ⟨vm2, hW2, h2⟩ := ih (u.setVm vm₁) hwarm hcell hh
            refine ⟨vm2, hW2, fun Q E d acts => ?_⟩
            rw [one, if_neg (by rw [hNC _ _ hin]; decide), h2]
            rfl
          · cases hh
      · cases hh
    · rename_i hcov
      obtain ⟨vm2, hW2, h2⟩ := ih u hW hcell hh
      refine ⟨vm2, hW2, fun Q E d acts => ?_⟩
      rw [W.findHandler_go_skip (by
        simp only [covers]
        rw [Bool.eq_false_iff]
        intro z
        apply hcov
        simpa using z), h2]
end AB6A
