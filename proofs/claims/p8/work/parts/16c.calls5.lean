/-! more calls: a method of a class above the receiver's, on an old receiver, of the superclass by name -/
def ab_p5 (cl : List vw_C) (Ts : List Cond) (mt : List ab_M) (own : String) (x : Nat) (n : ab_N) : Prop := match n with
  | (20, j, cr, _) => ∃ (N : ab_M) (r : vw_C) (y y' : MethodName) (bs : ByteArray) (ml : Nat) (rt : Option FieldType), mt[j]? = some N ∧ cl[cr]? = some r ∧ Cond.methodLink own x y ∈ Ts ∧ Cond.instanceMethod y ∈ Ts ∧ Cond.code y bs ml rt ∈ Ts ∧ (parseMethodDescriptor y.desc).map (fun d => d.parameters.length) = some (my_n N) ∧ (y.cls ≠ "java/lang/invoke/MethodHandle" ∧ y.cls ≠ "java/lang/invoke/VarHandle") ∧ (Cond.selects r.1 y (my_y N) ∈ Ts ∨ (y = my_y N ∧ Cond.privateMethod y ∈ Ts)) ∧ y'.cls = y.cls ∧ Cond.selects r.1 y' y' ∈ Ts ∧ Cond.instanceMethod y' ∈ Ts
  | (21, j, _, _) => ∃ N : ab_M, mt[j]? = some N ∧ Cond.methodLink own x (my_y N) ∈ Ts ∧ Cond.sameMethod (my_y N).cls (my_y N).cls (my_y N).name (my_y N).desc ∈ Ts ∧ Cond.superclass own (my_y N).cls ∈ Ts
  | _ => True
section AB9
variable {p : Program} {l : Launch} {e : Env} {R : Room} {s : State} {m : MethodId} {args : Array Value} {below : List Frame} {meth : Method} {c : Code} {T : State} {H : Heap} {locs : List Loc} {cells slots : Nat} {Q : State → Prop}
variable {B n0 z0 NC NS pc len : Nat} {od : Nat → Nat} {h h' : ab_H} {D : va_G} {dA : Nat → ClassId} {cl : List vw_C} {M N : ab_M} {i : Instr} {S S' : List Value} {ls : Array Slot} {cc : ByteArray} {Ts : List Cond} {mt : List ab_M} {pl : Nat → Option ab_N} {own : String} {oo : Nat → Option (Nat × List Value)}
theorem ab_stk {B : Nat} {od : Nat → Nat} {S r : List Value} {n : Nat} {v : Value} (hdr : S.drop n = v :: r) : S.map (ab_v B od) = (((S.take n).reverse).map (ab_v B od)).reverse ++ ab_v B od v :: r.map (ab_v B od) := by
  rw [← List.map_reverse, List.reverse_reverse]
  have z : S = S.take n ++ (v :: r) := by rw [← hdr, List.take_append_drop]
  conv => lhs; rw [z]
  rw [List.map_append]
  rfl
set_option maxHeartbeats 4000000 in
theorem ab_cs5_ok (X : Stand p l e R s m args below meth c T locs cells slots) (hx : p.tables.exec = Jvm.exec) (hb : c.code = cc) (hown : s.vm.findClass own = some m.cls) (hTs : ∀ w ∈ Ts, va_Nw w s) (hKC : ab_KC D cl s) (hOO : ab_OO B od cl oo s s.heap) (hw : ab_mw Ts N) (hpm : ∀ x n, pl x = some n → ab_pm Ts mt own x n) (hp5 : ∀ x n, pl x = some n → ab_p5 cl Ts mt own x n)
    (hdg : decode cc pc = .ok (i, len)) (hlen : ab_len i = 0 ∨ len = ab_len i) (hR : ab_R B od D dA cl NC NS s.heap n0 z0 h T.heap locs cells slots) {j : Nat} {as r : List Value} (hs : ab_cs5 cl oo mt pl i S h = some (j, as, r)) (hN : mt[j]? = some N) :
    len = 3 ∧ ∃ (vm₁ : Vm) (mk : MethodId) (methk : Method) (ck : Code) (kk : Class), ab_mf N s mk methk ck kk ∧ s.WarmedH vm₁ ∧ Stand p l e R s m args below meth c (T.setVm vm₁) locs cells slots ∧
      ∀ target, (∀ acts, Steps p.tables e below (doInvoke e ((T.setVm vm₁).setTop (F0 m pc ls (r.map (ab_v B od)))) acts mk (as.map (ab_v B od)).toArray).1 target) → Steps p.tables e below (T.setTop (F0 m pc ls (S.map (ab_v B od)))) target := by
  subst hb
  obtain ⟨mk, methk, ck, kk, hmf⟩ := ab_mf_of hw hTs
  have hmf' := hmf
  obtain ⟨f1, f2, f3, f4, f5, f6, f7, f8, f9, f10, f11, f12, f13⟩ := hmf
  obtain ⟨w1, w2, w3, w4, w5, w6, w7⟩ := hw
  have selOf : ∀ {C : String} {cell : Cell}, s.vm.findClass C = some cell.cls → Cond.selects C (my_y N) (my_y N) ∈ Ts → selectMethod e.platform s.vm cell.cls mk = .method mk ∧ kk.isInterface = false := fun {C cell} hcls q => by
    obtain ⟨c2, r2, m2, q1', q2', q3', q4', kP, hkP, hkPi⟩ := Cond.selects_spec (hTs _ q)
    cases hcls.symm.trans q1'
    cases (State.methodFound?_of_named f1 w4).symm.trans q2'
    cases f1.symm.trans q3'
    cases f10.symm.trans hkP
    exact ⟨by rw [Launch.admits_selectMethod X.admits]; exact q4', hkPi⟩
  unfold ab_cs5 at hs
  split at hs
  · rename_i x
    have hl : len = 3 := by rcases hlen with q | q; exact absurd q (by simp [ab_len]); exact q
    subst hl
    refine ⟨rfl, ?_⟩
    split at hs
    · rename_i j' cr v hp
      split at hs
      · rename_i N' hN'
        split at hs
        · rename_i q0 r0 hdr
          split at hs
          · rename_i ci fs hq
            split at hs
            · rename_i hc
              obtain ⟨hc1, hc2, rfl⟩ := hc
              cases hs
              cases hN.symm.trans hN'
              obtain ⟨N2, r2, y, y', bs, ml, rt, hN2, hr2, hl2, hiy, hcy, hpy, wy, hsel2, hy', hs', hi'⟩ := hp5 _ _ hp
              cases hN.symm.trans hN2
              obtain ⟨mk', meth', g1, g2, g3, g4⟩ := Cond.instanceMethod_spec (hTs _ (w7 hc1))
              cases f1.symm.trans g1
              cases f2.symm.trans g2
              obtain ⟨r1, hr1, cell, q1, q2, q3, q4⟩ := hR.1 q0 _ hq
              have er : r1 = r2 := Option.some.inj (hr1.symm.trans hr2)
              subst er
              have hcls : s.vm.findClass r1.1 = some cell.cls := by rw [q2]; exact (hKC ci r1 hr1).1.2.1
              have hobj : ∀ z, cell.vm ≠ .statics z := fun z hz => by rw [q3] at hz; cases hz
              obtain ⟨rk, methR, u1, u2, u3, -⟩ := Cond.instanceMethod_spec (hTs _ hiy)
              obtain ⟨methR', cR, v1, -, -, -, -, -, -, v8⟩ := Cond.code_spec u1 (hTs _ hcy)
              cases u2.symm.trans v1
              obtain ⟨kr, hkr, -⟩ := className_of_methodNamed u1
              have hlenA : (((S.take (my_n N)).reverse).map (ab_v B od)).length = methR.sig.parameters.length := by
                rw [v8] at hpy
                have hpy' : methR.sig.parameters.length = my_n N := by simpa using hpy
                rw [hpy']; simp; omega
              have hniR : kr.isInterface = false := by
                obtain ⟨mq, methq, gq1, gq2, -, -⟩ := Cond.instanceMethod_spec (hTs _ hi')
                obtain ⟨c2, r2, m2, q1', q2', q3', q4', kP, hkP, hkPi⟩ := Cond.selects_spec (hTs _ hs')
                cases gq1.symm.trans q3'
                have e2 : mq.cls = rk.cls := by
                  have z1 := findClass_of_methodNamed gq1
                  have z2 := findClass_of_methodNamed u1
                  rw [hy'] at z1
                  exact Option.some.inj (z1.symm.trans z2)
                rw [e2] at hkP
                cases hkr.symm.trans hkP
                exact hkPi
              have hboth : selectMethod e.platform s.vm cell.cls rk = .method mk ∧ kk.isInterface = false := by
                rcases hsel2 with hsel2 | ⟨ey, hpv⟩
                · obtain ⟨c2, r2, m2, q1', q2', q3', q4', kP, hkP, hkPi⟩ := Cond.selects_spec (hTs _ hsel2)
                  cases hcls.symm.trans q1'
                  cases (State.methodFound?_of_named u1 wy).symm.trans q2'
                  cases f1.symm.trans q3'
                  cases f10.symm.trans hkP
                  exact ⟨by rw [Launch.admits_selectMethod X.admits]; exact q4', hkPi⟩
                · subst ey
                  cases f1.symm.trans u1
                  cases f10.symm.trans hkr
                  refine ⟨?_, hniR⟩
                  rw [Launch.admits_selectMethod X.admits]
                  exact selectMethod_private f2 (Cond.privateMethod_at (va_Nw.use (A := args) rfl (hTs _ hpv)) mk methk f1 f2)
              obtain ⟨hsel, hni⟩ := hboth
              obtain ⟨vm₁, X₁, st⟩ := X.invokevirtual hx hown (va_Nw.use rfl (hTs _ hl2)) u1 u2 u3 hkr hniR wy (a := B + q0) (cell := cell) q1 hobj hsel f2 g4 f10 hni (g := F0 m pc ls (S.map (ab_v B od))) rfl hlenA (ab_stk hdr) hdg
              exact ⟨vm₁, mk, methk, ck, kk, hmf', X₁.warmed, X₁, st⟩
            · cases hs
          · cases hs
        · cases hs
      · cases hs
    · rename_i j' nst v hp
      split at hs
      · rename_i N' hN'
        split at hs
        · rename_i w0 r0 hdr
          split at hs
          · rename_i ci fs hq
            split at hs
            · rename_i hc
              obtain ⟨hc1, hc2, hc3, hc4⟩ := hc
              cases hs
              cases hN.symm.trans hN'
              obtain ⟨N2, hN2, hl2⟩ := hpm _ _ hp
              cases hN.symm.trans hN2
              obtain ⟨mk', meth', g1, g2, g3, g4⟩ := Cond.instanceMethod_spec (hTs _ (w7 hc1))
              cases f1.symm.trans g1
              cases f2.symm.trans g2
              obtain ⟨r1, hr1, hO, -⟩ := hOO _ _ _ hq
              obtain ⟨cell, o1, o2, o3, -⟩ := hO.kept hR.2.2.1.2.1
              have hcn : r1.1 = (my_y N).cls := by rw [hr1] at hc3; simpa using hc3
              have hcls : s.vm.findClass (my_y N).cls = some cell.cls := by rw [← hcn]; exact o3
              have hobj : ∀ z, cell.vm ≠ .statics z := fun z hz => by rw [hz] at o2; cases o2
              have hlenA : (((S.take (my_n N)).reverse).map (ab_v B od)).length = methk.sig.parameters.length := by
                rw [f9]; simp; omega
              rcases hl2 with ⟨h0, q⟩ | ⟨h0, host, q⟩ | ⟨-, q, qs⟩ | ⟨h0, qs, host, q⟩
              · rw [h0] at hc4; cases hc4
              · rw [h0] at hc4; cases hc4
              · obtain ⟨hsel, hni⟩ := selOf hcls qs
                obtain ⟨vm₁, X₁, st⟩ := X.invokevirtual hx hown (va_Nw.use rfl (hTs _ q)) f1 f2 g3 f10 hni w4 (a := od w0.toNat) (cell := cell) o1 hobj hsel f2 g4 f10 hni (g := F0 m pc ls (S.map (ab_v B od))) rfl hlenA (ab_stk hdr) hdg
                exact ⟨vm₁, mk, methk, ck, kk, hmf', X₁.warmed, X₁, st⟩
              · rw [h0] at hc4; cases hc4
            · cases hs
          · cases hs
        · cases hs
      · cases hs
    · cases hs
  · rename_i x
    have hl : len = 3 := by rcases hlen with q | q; exact absurd q (by simp [ab_len]); exact q
    subst hl
    refine ⟨rfl, ?_⟩
    split at hs
    · rename_i j' cr v hp
      split at hs
      · rename_i N' hN'
        split at hs
        · rename_i q0 r0 hdr
          split at hs
          · rename_i ci fs hq
            split at hs
            · rename_i hc
              obtain ⟨hc1, hc2, hc3⟩ := hc
              cases hs
              cases hN.symm.trans hN'
              obtain ⟨N2, hN2, hl2, hsame, hsup⟩ := hp5 _ _ hp
              cases hN.symm.trans hN2
              obtain ⟨mk', meth', g1, g2, g3, g4⟩ := Cond.instanceMethod_spec (hTs _ (w7 hc1))
              cases f1.symm.trans g1
              cases f2.symm.trans g2
              obtain ⟨r1, hr1, cell, q1, q2, q3, q4⟩ := hR.1 q0 _ hq
              obtain ⟨kB, hkB, -⟩ := Vm.findClass_spec (hKC ci r1 hr1).1.2.1
              obtain ⟨ps, dk, kp, hps, hdk, hkp, hsuper, -, -, hnid⟩ := Cond.superclass_spec hown (va_Nw.use (A := args) rfl (hTs _ hsup))
              have hpmk : ps = mk.cls := Option.some.inj (hps.symm.trans (findClass_of_methodNamed f1))
              have hsub : s.vm.isSubclass ps mk.cls = true := by rw [hpmk]; simp [Vm.isSubclass, Vm.isSubclassAux]
              have hlenA : (((S.take (my_n N)).reverse).map (ab_v B od)).length = methk.sig.parameters.length := by
                rw [f9]; simp; omega
              obtain ⟨vm₁, X₁, st⟩ := X.invokespecialUp hx hown (va_Nw.use rfl (hTs _ hl2)) (va_Nw.use rfl (hTs _ hsame)) f1 f2 g3 g4 hc3 hdk hnid hps hsuper hsub (a := B + q0) (cell := cell) q1 (fun z hz => by rw [q3] at hz; cases hz) (by rw [q2]; exact hkB) (g := F0 m pc ls (S.map (ab_v B od))) rfl (argsL := ((S.take (my_n N)).reverse).map (ab_v B od)) (rest := r.map (ab_v B od)) hlenA (ab_stk hdr) hdg
              exact ⟨vm₁, mk, methk, ck, kk, hmf', X₁.warmed, X₁, fun target hh => st target (hh [])⟩
            · cases hs
          · cases hs
        · cases hs
      · cases hs
    · cases hs
  · cases hs
theorem ab_call_ok (X : Stand p l e R s m args below meth c T locs cells slots) (hx : p.tables.exec = Jvm.exec) (hb : c.code = cc) (hown : s.vm.findClass own = some m.cls) (hTs : ∀ w ∈ Ts, va_Nw w s) (hKC : ab_KC D cl s) (hOO : ab_OO B od cl oo s s.heap) (hw : ab_mw Ts N) (hpm : ∀ x n, pl x = some n → ab_pm Ts mt own x n) (hp5 : ∀ x n, pl x = some n → ab_p5 cl Ts mt own x n)
    (hdg : decode cc pc = .ok (i, len)) (hlen : ab_len i = 0 ∨ len = ab_len i) (hR : ab_R B od D dA cl NC NS s.heap n0 z0 h T.heap locs cells slots) {j : Nat} {as r : List Value} (hs : ab_call cl oo mt pl i S h = some (j, as, r)) (hN : mt[j]? = some N) :
    len = 3 ∧ ∃ (vm₁ : Vm) (mk : MethodId) (methk : Method) (ck : Code) (kk : Class), ab_mf N s mk methk ck kk ∧ s.WarmedH vm₁ ∧ Stand p l e R s m args below meth c (T.setVm vm₁) locs cells slots ∧
      ∀ target, (∀ acts, Steps p.tables e below (doInvoke e ((T.setVm vm₁).setTop (F0 m pc ls (r.map (ab_v B od)))) acts mk (as.map (ab_v B od)).toArray).1 target) → Steps p.tables e below (T.setTop (F0 m pc ls (S.map (ab_v B od)))) target := by
  unfold ab_call at hs
  split at hs
  · rename_i z hz
    cases hs
    exact ab_cs_ok X hx hb hown hTs hKC hw hpm hdg hlen hR hz hN
  · exact ab_cs5_ok X hx hb hown hTs hKC hOO hw hpm hp5 hdg hlen hR hs hN
end AB9
