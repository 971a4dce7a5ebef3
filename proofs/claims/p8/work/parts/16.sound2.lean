/-- what the words Ts say of a method -/
def ab_mw (Ts : List Cond) (N : ab_M) : Prop :=
  ((my_h N = [] ∧ Cond.code (my_y N) (my_b N) (my_l N) (my_r N) ∈ Ts) ∨ (my_h N ≠ [] ∧ Cond.codeWith (my_y N) (my_b N) (my_l N) (my_r N) (my_h N) ∈ Ts)) ∧ Cond.initialized (my_y N).cls ∈ Ts ∧ plainFor (my_y N) = true ∧
  ((my_y N).cls ≠ "java/lang/invoke/MethodHandle" ∧ (my_y N).cls ≠ "java/lang/invoke/VarHandle") ∧ (parseMethodDescriptor (my_y N).desc).map (fun d => d.parameters.length) = some (my_n N) ∧
  (my_s N = true → Cond.static (my_y N) ∈ Ts) ∧ (my_s N = false → Cond.instanceMethod (my_y N) ∈ Ts)
/-- the method as the tables have it -/
def ab_mf (N : ab_M) (s : State) (mk : MethodId) (methk : Method) (ck : Code) (kk : Class) : Prop :=
  s.methodNamed? (my_y N) = some mk ∧ s.vm.method? mk = some methk ∧ methk.code = some ck ∧ ck.code = my_b N ∧ ck.maxLocals = my_l N ∧ methk.sig.returnType = my_r N ∧ methk.locks = false ∧ ck.exceptionTable.toList = tableOf (my_h N) ∧ methk.sig.parameters.length = my_n N ∧
  s.vm.classes[mk.cls]? = some kk ∧ kk.name = (my_y N).cls ∧ kk.init = .initialized ∧ methk.name = (my_y N).name
theorem ab_mf_of {Ts : List Cond} {N : ab_M} {s : State} (hw : ab_mw Ts N) (hTs : ∀ w ∈ Ts, va_Nw w s) : ∃ mk methk ck kk, ab_mf N s mk methk ck kk := by
  obtain ⟨w1, w2, w3, w4, w5, w6, w7⟩ := hw
  have key : ∃ mk methk ck, s.methodNamed? (my_y N) = some mk ∧ s.vm.method? mk = some methk ∧ methk.code = some ck ∧ ck.code = my_b N ∧ ck.maxLocals = my_l N ∧ methk.sig.returnType = my_r N ∧ methk.locks = false ∧ ck.exceptionTable.toList = tableOf (my_h N) ∧ parseMethodDescriptor (my_y N).desc = some methk.sig := by
    rcases w1 with ⟨w1, w1'⟩ | ⟨-, w1⟩
    · have hc := hTs _ w1'
      obtain ⟨mk, hn⟩ := Cond.code_named hc
      obtain ⟨methk, ck, g1, g2, g3, g4, g5, g6, g7, g8⟩ := Cond.code_spec hn hc
      refine ⟨mk, methk, ck, hn, g1, g2, g3, g4, g5, g6, ?_, g8⟩
      rw [w1]
      have : ck.exceptionTable = #[] := by simpa using g7
      rw [this]; rfl
    · obtain ⟨mk, methk, ck, hn, g1, g2, g3, g4, g5, g6, g7, g8⟩ := Cond.codeWith_spec (hTs _ w1)
      refine ⟨mk, methk, ck, hn, g1, g2, g3, g4, g6, g7, ?_, ?_⟩
      · rw [← g5, table_eq]
      · first | exact g8 | exact g8.1 | exact g8.2
  obtain ⟨mk, methk, ck, hn, g1, g2, g3, g4, g5, g6, g7, g8⟩ := key
  obtain ⟨kk, hk, hnm⟩ := className_of_methodNamed hn
  have hinit := Cond.initialized_spec (findClass_of_methodNamed hn) hk (hTs _ w2)
  rw [g8] at w5
  exact ⟨mk, methk, ck, kk, hn, g1, g2, g3, g4, g5, g6, g7, by simpa using w5, hk, hnm, hinit, (name_of_methodNamed hn g1).1⟩
/-- what the words Ts say of a place in a pool that names a method -/
def ab_pm (Ts : List Cond) (mt : List ab_M) (own : String) (x : Nat) (n : ab_N) : Prop := match n with
  | (1, j, nst, _) => ∃ N : ab_M, mt[j]? = some N ∧ ((nst = 0 ∧ Cond.methodLink own x (my_y N) ∈ Ts) ∨ (nst = 1 ∧ ∃ host : String, Cond.methodLinkNest own x (my_y N) host ∈ Ts) ∨ (nst = 2 ∧ Cond.methodLink own x (my_y N) ∈ Ts ∧ Cond.selects (my_y N).cls (my_y N) (my_y N) ∈ Ts) ∨ (nst = 3 ∧ Cond.selects (my_y N).cls (my_y N) (my_y N) ∈ Ts ∧ ∃ host : String, Cond.methodLinkNest own x (my_y N) host ∈ Ts))
  | (5, _, _, _) => Cond.methodLink own x Lib.objectInit ∈ Ts ∧ Cond.instanceMethod Lib.objectInit ∈ Ts ∧ Cond.code Lib.objectInit ⟨#[0xb1]⟩ 1 none ∈ Ts
  | _ => True
section AB6
variable {p : Program} {l : Launch} {e : Env} {R : Room} {s : State} {m : MethodId} {args : Array Value} {below : List Frame} {meth : Method} {c : Code} {T : State} {H : Heap} {locs : List Loc} {cells slots : Nat} {Q : State → Prop}
variable {B n0 z0 NC NS pc len : Nat} {od : Nat → Nat} {h h' : ab_H} {D : va_G} {dA : Nat → ClassId} {cl : List vw_C} {M N : ab_M} {i : Instr} {S S' : List Value} {ls : Array Slot} {cc : ByteArray} {Ts : List Cond} {mt : List ab_M} {pl : Nat → Option ab_N} {own : String}
theorem ab_split {S : List Value} {n : Nat} : S = ((S.take n).reverse).reverse ++ S.drop n := by
  rw [List.reverse_reverse, List.take_append_drop]
/-- a call's own instruction: what it resolves, and the invocation that it makes -/
theorem ab_cs_ok (X : Stand p l e R s m args below meth c T locs cells slots) (hx : p.tables.exec = Jvm.exec) (hb : c.code = cc) (hown : s.vm.findClass own = some m.cls) (hTs : ∀ w ∈ Ts, va_Nw w s) (hKC : ab_KC D cl s) (hw : ab_mw Ts N) (hpm : ∀ x n, pl x = some n → ab_pm Ts mt own x n)
    (hdg : decode cc pc = .ok (i, len)) (hlen : ab_len i = 0 ∨ len = ab_len i) (hR : ab_R B od D dA cl NC NS s.heap n0 z0 h T.heap locs cells slots) {j : Nat} {as r : List Value} (hs : ab_cs cl mt pl i S h = some (j, as, r)) (hN : mt[j]? = some N) :
    len = 3 ∧ ∃ (vm₁ : Vm) (mk : MethodId) (methk : Method) (ck : Code) (kk : Class), ab_mf N s mk methk ck kk ∧ s.WarmedH vm₁ ∧ Stand p l e R s m args below meth c (T.setVm vm₁) locs cells slots ∧
      ∀ target, (∀ acts, Steps p.tables e below (doInvoke e ((T.setVm vm₁).setTop (F0 m pc ls (r.map (ab_v B od)))) acts mk (as.map (ab_v B od)).toArray).1 target) → Steps p.tables e below (T.setTop (F0 m pc ls (S.map (ab_v B od)))) target := by
  subst hb
  obtain ⟨mk, methk, ck, kk, hmf⟩ := ab_mf_of hw hTs
  have hmf' := hmf
  obtain ⟨f1, f2, f3, f4, f5, f6, f7, f8, f9, f10, f11, f12, f13⟩ := hmf
  obtain ⟨w1, w2, w3, w4, w5, w6, w7⟩ := hw
  unfold ab_cs at hs
  split at hs
  · rename_i x
    have hl : len = 3 := by rcases hlen with q | q; exact absurd q (by simp [ab_len]); exact q
    subst hl
    refine ⟨rfl, ?_⟩
    split at hs
    · rename_i j' nst v hp
      split at hs
      · rename_i N' hN'
        split at hs
        · rename_i hc
          cases hs
          cases hN.symm.trans hN'
          obtain ⟨N2, hN2, hl2⟩ := hpm _ _ hp
          cases hN.symm.trans hN2
          have hst : methk.isStatic = true := Cond.static_spec f1 f2 (hTs _ (w6 hc.1))
          have hlenA : (((S.take (my_n N)).reverse).map (ab_v B od)).length = methk.sig.parameters.length := by
            rw [f9]; simp; omega
          have hstk : (F0 m pc ls (S.map (ab_v B od))).stack = (((S.take (my_n N)).reverse).map (ab_v B od)).reverse ++ (S.drop (my_n N)).map (ab_v B od) := by
            show S.map (ab_v B od) = _
            rw [← List.map_reverse, List.reverse_reverse, ← List.map_append, List.take_append_drop]
          rcases hl2 with ⟨-, q⟩ | ⟨-, host, q⟩ | ⟨-, q, -⟩ | ⟨-, -, host, q⟩
          · obtain ⟨vm₁, X₁, st⟩ := X.invokestatic hx hown (va_Nw.use rfl (hTs _ q)) f1 f2 hst f10 f12 w4 (g := F0 m pc ls (S.map (ab_v B od))) rfl hlenA hstk hdg
            exact ⟨vm₁, mk, methk, ck, kk, hmf', X₁.warmed, X₁, st⟩
          · obtain ⟨vm₁, X₁, st⟩ := X.invokestaticNest hx hown (va_Nw.use rfl (hTs _ q)) f1 f2 hst f10 f12 w4 (g := F0 m pc ls (S.map (ab_v B od))) rfl hlenA hstk hdg
            exact ⟨vm₁, mk, methk, ck, kk, hmf', X₁.warmed, X₁, st⟩
          · obtain ⟨vm₁, X₁, st⟩ := X.invokestatic hx hown (va_Nw.use rfl (hTs _ q)) f1 f2 hst f10 f12 w4 (g := F0 m pc ls (S.map (ab_v B od))) rfl hlenA hstk hdg
            exact ⟨vm₁, mk, methk, ck, kk, hmf', X₁.warmed, X₁, st⟩
          · obtain ⟨vm₁, X₁, st⟩ := X.invokestaticNest hx hown (va_Nw.use rfl (hTs _ q)) f1 f2 hst f10 f12 w4 (g := F0 m pc ls (S.map (ab_v B od))) rfl hlenA hstk hdg
            exact ⟨vm₁, mk, methk, ck, kk, hmf', X₁.warmed, X₁, st⟩
        · cases hs
      · cases hs
    · cases hs
  · rename_i x
    have hl : len = 3 := by rcases hlen with q | q; exact absurd q (by simp [ab_len]); exact q
    subst hl
    refine ⟨rfl, ?_⟩
    split at hs
    · rename_i j' nst v hp
      split at hs
      · rename_i N' hN'
        split at hs
        · rename_i q0 r0 hdr
          split at hs
          · rename_i ci fs hq
            split at hs
            · rename_i hc
              obtain ⟨hc1, hc2, hc3, hc4⟩ := hc
              cases hs
              cases hN.symm.trans hN'
              obtain ⟨N2, hN2, hl2⟩ := hpm _ _ hp
              cases hN.symm.trans hN2
              obtain ⟨mk', meth', g1, g2, g3, g4⟩ := Cond.instanceMethod_spec (hTs _ (w7 hc1))
              cases f1.symm.trans g1
              cases f2.symm.trans g2
              obtain ⟨r1, hr1, cell, q1, q2, q3, q4⟩ := hR.1 q0 _ hq
              have hcn : r1.1 = (my_y N).cls := by rw [hr1] at hc3; simpa using hc3
              have hcls : s.vm.findClass (my_y N).cls = some cell.cls := by rw [q2, ← hcn]; exact (hKC ci r1 hr1).1.2.1
              have hobj : ∀ z, cell.vm ≠ .statics z := fun z hz => by rw [q3] at hz; cases hz
              have hlenA : (((S.take (my_n N)).reverse).map (ab_v B od)).length = methk.sig.parameters.length := by
                rw [f9]; simp; omega
              have hstk : (F0 m pc ls (S.map (ab_v B od))).stack = (((S.take (my_n N)).reverse).map (ab_v B od)).reverse ++ .ref (B + q0) :: r.map (ab_v B od) := by
                show S.map (ab_v B od) = _
                rw [← List.map_reverse, List.reverse_reverse]
                have : S = S.take (my_n N) ++ (.ref q0 :: r) := by rw [← hdr, List.take_append_drop]
                conv => lhs; rw [this]
                rw [List.map_append]
                rfl
              have selOf : Cond.selects (my_y N).cls (my_y N) (my_y N) ∈ Ts → selectMethod e.platform s.vm cell.cls mk = .method mk ∧ kk.isInterface = false := fun q => by
                obtain ⟨c2, r2, m2, q1', q2', q3', q4', kP, hkP, hkPi⟩ := Cond.selects_spec (hTs _ q)
                cases hcls.symm.trans q1'
                cases (State.methodFound?_of_named f1 w4).symm.trans q2'
                cases f1.symm.trans q3'
                cases f10.symm.trans hkP
                exact ⟨by rw [Launch.admits_selectMethod X.admits]; exact q4', hkPi⟩
              rcases hl2 with ⟨h0, q⟩ | ⟨h0, host, q⟩ | ⟨-, q, qs⟩ | ⟨-, qs, host, q⟩
              · rw [h0] at hc4; rcases hc4 with z | z <;> cases z
              · rw [h0] at hc4; rcases hc4 with z | z <;> cases z
              · obtain ⟨hsel, hni⟩ := selOf qs
                obtain ⟨vm₁, X₁, st⟩ := X.invokevirtual hx hown (va_Nw.use rfl (hTs _ q)) f1 f2 g3 f10 hni w4 (a := B + q0) (cell := cell) q1 hobj hsel f2 g4 f10 hni (g := F0 m pc ls (S.map (ab_v B od))) rfl hlenA hstk hdg
                exact ⟨vm₁, mk, methk, ck, kk, hmf', X₁.warmed, X₁, st⟩
              · obtain ⟨hsel, hni⟩ := selOf qs
                obtain ⟨vm₁, X₁, st⟩ := X.invokevirtualNest hx hown (va_Nw.use rfl (hTs _ q)) f1 f2 g3 f10 hni w4 (a := B + q0) (cell := cell) q1 hobj hsel f2 g4 f10 hni (g := F0 m pc ls (S.map (ab_v B od))) rfl hlenA hstk hdg
                exact ⟨vm₁, mk, methk, ck, kk, hmf', X₁.warmed, X₁, st⟩
            · cases hs
          · cases hs
        · cases hs
      · cases hs
    · cases hs
  · rename_i x
    have hl : len = 3 := by rcases hlen with q | q; exact absurd q (by simp [ab_len]); exact q
    subst hl
    refine ⟨rfl, ?_⟩
    split at hs
    · rename_i j' nst v hp
      split at hs
      · rename_i N' hN'
        split at hs
        · rename_i q0 r0 hdr
          split at hs
          · rename_i hc
            obtain ⟨hc1, hc2, hc3, hc4, hc5⟩ := hc
            cases hs
            cases hN.symm.trans hN'
            obtain ⟨N2, hN2, hl2⟩ := hpm _ _ hp
            cases hN.symm.trans hN2
            have hcode : va_Nw (.code (my_y N) (my_b N) (my_l N) none) s := by
              rcases w1 with ⟨-, q⟩ | ⟨q, -⟩
              · rw [hc4] at q; exact hTs _ q
              · exact absurd hc5 q
            have hpl : e.platform.magicAccessors = ({} : Platform).magicAccessors := by rw [X.admits.platform]
            have hlenA : ∀ sig, parseMethodDescriptor (my_y N).desc = some sig → (((S.take (my_n N)).reverse).map (ab_v B od)).length = sig.parameters.length := fun sig hsig => by
              rw [hsig] at w5
              have : sig.parameters.length = my_n N := by simpa using w5
              rw [this]; simp; omega
            have hstk : (F0 m pc ls (S.map (ab_v B od))).stack = (((S.take (my_n N)).reverse).map (ab_v B od)).reverse ++ .ref (B + q0) :: r.map (ab_v B od) := by
              show S.map (ab_v B od) = _
              rw [← List.map_reverse, List.reverse_reverse]
              have : S = S.take (my_n N) ++ (.ref q0 :: r) := by rw [← hdr, List.take_append_drop]
              conv => lhs; rw [this]
              rw [List.map_append]
              rfl
            have hq : Cond.methodLink own x (my_y N) ∈ Ts ∨ ∃ host, Cond.methodLinkNest own x (my_y N) host ∈ Ts := by
              rcases hl2 with ⟨-, q⟩ | ⟨-, host, q⟩ | ⟨-, q, -⟩ | ⟨-, -, host, q⟩
              · exact Or.inl q
              · exact Or.inr ⟨host, q⟩
              · exact Or.inl q
              · exact Or.inr ⟨host, q⟩
            rcases hq with q | ⟨host, q⟩
            · obtain ⟨tm, meth2, cd2, k2, vm₁, e1, e2, e3, e4, e5, e6, e7, e8, hW₁, st⟩ := Steps.initColdArgs (e := e) X.here hx X.warmed hpl hown hc3 w4 (va_Nw.use (A := args) rfl (hTs _ q)) (va_Nw.use rfl (hTs _ (w7 hc1))) (va_Nw.use rfl hcode) (f := F0 m pc ls (S.map (ab_v B od))) rfl hlenA hstk hdg
              cases f1.symm.trans e1
              exact ⟨vm₁, mk, methk, ck, kk, hmf', hW₁, X.noted hW₁, st⟩
            · obtain ⟨tm, meth2, cd2, k2, vm₁, e1, e2, e3, e4, e5, e6, e7, e8, hW₁, st⟩ := Steps.initColdArgsNest (e := e) X.here hx X.warmed hpl hown hc3 w4 (va_Nw.use (A := args) rfl (hTs _ q)) (va_Nw.use rfl (hTs _ (w7 hc1))) (va_Nw.use rfl hcode) (f := F0 m pc ls (S.map (ab_v B od))) rfl hlenA hstk hdg
              cases f1.symm.trans e1
              exact ⟨vm₁, mk, methk, ck, kk, hmf', hW₁, X.noted hW₁, st⟩
          · cases hs
        · cases hs
      · cases hs
    · cases hs
  · cases hs
end AB6
