/-- what holds of a state: the words, the classes, the arrays' classes, the constants -/
def ab_F (D : va_G) (dA : Nat → ClassId) (cl : List vw_C) (aty : List FieldType) (od : Nat → Nat) (Ts : List Cond) (nc : List (Nat × Nat)) (mt : List ab_M) (s : State) : Prop :=
  (∀ w ∈ Ts, va_Nw w s) ∧ ab_KC D cl s ∧ ab_KA dA aty s ∧ ab_NCs D nc s ∧ (∀ (t : Nat) (C : String), aty[t]? = some (.object C) → va_AO C s) ∧ ∀ M ∈ mt, ∀ x a b w, my_p M x = some (7, a, b, .float w) → ∃ tx : String, vk_R (my_y M).cls x tx (od w.toNat) s
def ab_good (w : Cond) : Prop := w.onTables = true ∧ (w.keepsFace = true ∨ ∃ (a : String) (b : Nat) (c d e f : String), w = .fieldLinkNest a b c d e f)
theorem ab_F.warm {D : va_G} {dA : Nat → ClassId} {cl : List vw_C} {aty : List FieldType} {od : Nat → Nat} {Ts : List Cond} {nc : List (Nat × Nat)} {mt : List ab_M} {s U : State} (hg : ∀ w ∈ Ts, ab_good w) (hu : ∀ (ci : Nat) (r : vw_C), cl[ci]? = some r → ∀ w ∈ u_ws r.1 r.2.1 r.2.2, w ∈ Ts) (hW : s.WarmedH U.vm) (h : ab_F D dA cl aty od Ts nc mt s) : ab_F D dA cl aty od Ts nc mt U := by
  obtain ⟨h1, h2, h3, h5, h6, h4⟩ := h
  have g1 : ∀ w ∈ Ts, ∀ A, w.before A U = true := fun w hw A => by
    obtain ⟨k1, k2⟩ := hg w hw
    rcases k2 with k2 | ⟨a, b, c, d, e, f, rfl⟩
    · exact va_tabs k1 (rfl : (s.setVm U.vm).vm = U.vm) (Cond.before_shiftedFace (args := #[]) (State.Shifted.of_warmed hW) w k2 (h1 w hw))
    · exact va_tabs k1 (rfl : (s.setVm U.vm).vm = U.vm) (Cond.fieldLinkNest_warmed (args := #[]) hW (h1 _ hw))
  refine ⟨fun w hw => g1 w hw #[], fun ci r hr => ⟨u_Kn_moved hW.alike (h2 ci r hr).1, fun A w hw => g1 w (hu ci r hr w hw) A⟩, fun t ty ht => ⟨arrOfT_moved hW.alike (h3 t ty ht).1, (h3 t ty ht).2.1.moved hW.alike, fun hp => word_at (args := #[]) hW (Or.inr ⟨ty, rfl⟩) ((h3 t ty ht).2.2 hp)⟩, fun i j hij => by rw [hW.alike.assignable]; exact h5 i j hij, fun t C ht => (h6 t C ht).moved hW.alike, fun M hM x a b w hp => ?_⟩
  obtain ⟨tx, q⟩ := h4 M hM x a b w hp
  exact ⟨tx, q.warm hW⟩
theorem ab_OO.kept {B : Nat} {od : Nat → Nat} {cl : List vw_C} {oo : Nat → Option (Nat × List Value)} {s U : State} {H H1 : Heap} (h : ab_OO B od cl oo s H) (hvm : s.vm.Alike U.vm) (hk : ∀ q, q < H.size → ¬ B ≤ q → H1[q]? = H[q]?) : ab_OO B od cl oo U H1 := by
  intro w ci fs hw
  obtain ⟨r, g1, g2, g3⟩ := h w ci fs hw
  exact ⟨r, g1, (g2.moved hvm).kept hk, fun b v hb => ⟨(g3 b v hb).1, ((g3 b v hb).2.moved hvm).kept hk⟩⟩
theorem ab_SZ.kept {B : Nat} {od : Nat → Nat} {Ts : List Cond} {own : String} {pl : Nat → Option ab_N} {s U : State} {H H1 : Heap} (h : ab_SZ B od Ts own pl s H) (hvm : s.vm.Alike U.vm) (hk : ∀ q, q < H.size → ¬ B ≤ q → H1[q]? = H[q]?) : ab_SZ B od Ts own pl U H1 := by
  intro x a b v hx
  obtain ⟨C, n, d, g1, g2⟩ := h x a b v hx
  exact ⟨C, n, d, (g1.moved hvm).kept hk, g2⟩
theorem ab_OA.kept {B : Nat} {od : Nat → Nat} {oa : Nat → Option (FieldType × Nat × (Nat → Value))} {s U : State} {H H1 : Heap} (h : ab_OA B od oa s H) (hvm : s.vm.Alike U.vm) (hk : ∀ q, q < H.size → ¬ B ≤ q → H1[q]? = H[q]?) : ab_OA B od oa U H1 := by
  intro w t n f hw
  obtain ⟨g1, cell, g2, g3, g4⟩ := h w t n f hw
  exact ⟨g1, cell, (hk _ (Array.getElem?_eq_some_iff.mp g2).1 (by omega)).trans g2, State.isArrayOf_alike hvm g3, g4⟩
/-- what is fixed of the program -/
def ab_SF (cl : List vw_C) (ct : Nat → Nat → FieldType) (cd : Nat → List Value) (aty : List FieldType) (sb : List (Nat × Nat)) (Ts : List Cond) (mt : List ab_M) : Prop :=
  (∀ t ci, (t, ci) ∈ sb → ∃ (E : String) (r : vw_C), aty[t]? = some (.object E) ∧ cl[ci]? = some r ∧ (r.1 = E ∨ Cond.castable r.1 E ∈ Ts)) ∧ ab_CS cl ct cd ∧ (∀ w ∈ Ts, ab_good w) ∧ (∀ (ci : Nat) (r : vw_C), cl[ci]? = some r → ∀ w ∈ u_ws r.1 r.2.1 r.2.2, w ∈ Ts) ∧ (∀ j N, mt[j]? = some N → j ≠ 0 → ab_mw Ts N) ∧ ∀ M ∈ mt, ab_ck M ∧ ∀ x n, my_p M x = some n → ab_pe cl Ts (my_y M).cls x n ∧ ab_pm Ts mt (my_y M).cls x n ∧ ab_p11 cl Ts (my_y M).cls x n ∧ ab_p4 cl aty Ts (my_y M).cls x n ∧ ab_p5 cl Ts mt (my_y M).cls x n ∧ ab_q5 aty Ts (my_y M).cls x n
/-- what holds of an activation -/
def ab_A (D : va_G) (dA : Nat → ClassId) (cl : List vw_C) (aty : List FieldType) (oa : Nat → Option (FieldType × Nat × (Nat → Value))) (oo : Nat → Option (Nat × List Value)) (od : Nat → Nat) (Ts : List Cond) (nc : List (Nat × Nat)) (mt : List ab_M) (B NC NS : Nat) (M : ab_M) (d : Nat) (R : Room) (s : State) (m : MethodId) (meth : Method) (c : Code) (n0 z0 : Nat) : Prop :=
  c.code = my_b M ∧ c.maxLocals = my_l M ∧ meth.sig.returnType = my_r M ∧ meth.locks = false ∧ s.vm.findClass (my_y M).cls = some m.cls ∧ c.exceptionTable.toList = tableOf (my_h M) ∧ meth.name = (my_y M).name ∧ ab_F D dA cl aty od Ts nc mt s ∧ ab_OA B od oa s s.heap ∧ NC ≤ n0 + R.cells ∧ NS ≤ z0 + R.slots ∧ d + 8 ≤ R.frames ∧ 64 * d + 512 ≤ R.locals ∧ ab_LS B Bundle.tN "UNASSIGNED_STACK" Bundle.steD s s.heap ∧ ab_LS B Bundle.tN "SUPPRESSED_SENTINEL" Bundle.listD s s.heap ∧ ab_OO B od cl oo s s.heap ∧ (∀ M ∈ mt, ab_SZ B od Ts (my_y M).cls (my_p M) s s.heap) ∧ ∀ M ∈ mt, ab_MI od aty Ts (my_y M).cls (my_p M) s
theorem ab_args_map (B : Nat) (od : Nat → Nat) (as : List Value) : ∀ i, lv_args i (as.map (ab_v B od)) = ab_m B od (lv_args i as) := by
  induction as with
  | nil => intro i; rfl
  | cons v vs ih =>
    intro i
    show (i, ab_v B od v) :: lv_args (if (ab_v B od v).category = 2 then i + 2 else i + 1) (vs.map (ab_v B od)) = _
    rw [ab_v_cat, ih]
    rfl
theorem ab_sl_map (B : Nat) (od : Nat → Nat) (as : List Value) : (lg_sl (as.map (ab_v B od))).length = (lg_sl as).length := by
  induction as with
  | nil => rfl
  | cons v vs ih =>
    simp only [lg_sl, List.map_cons, List.flatMap_cons, List.length_append] at ih ⊢
    rw [ab_v_cat, ih]
    by_cases hc : v.category = 2 <;> simp [hc]
theorem ab_wt_map (B : Nat) (od : Nat → Nat) (r : List Value) : ((r.map (ab_v B od)).map fun v => v.category).sum = ab_wt r := by
  unfold ab_wt
  rw [List.map_map]
  congr 1
  apply List.map_congr_left
  intro v _
  exact ab_v_cat B od v
section AB7
variable {p : Program} {l : Launch} {e : Env} {B NC NS : Nat} {od : Nat → Nat} {D : va_G} {dA : Nat → ClassId} {cl : List vw_C} {ct : Nat → Nat → FieldType} {cd : Nat → List Value} {aty : List FieldType} {oa : Nat → Option (FieldType × Nat × (Nat → Value))} {oo : Nat → Option (Nat × List Value)} {sb : List (Nat × Nat)} {Ts : List Cond} {nc : List (Nat × Nat)} {mt : List ab_M}
/-- a throw of one's own -/
def ab_TH (p : Program) (l : Launch) (e : Env) (B NC NS : Nat) (od : Nat → Nat) (D : va_G) (dA : Nat → ClassId) (cl : List vw_C) (aty : List FieldType) (oa : Nat → Option (FieldType × Nat × (Nat → Value))) (oo : Nat → Option (Nat × List Value)) (Ts : List Cond) (nc : List (Nat × Nat)) (mt : List ab_M) : Prop :=
  ∀ (M : ab_M) (d : Nat) (R : Room) (s : State) (m : MethodId) (args : Array Value) (below : List Frame) (meth : Method) (c : Code) (H : Heap) (locs : List Loc) (cells slots n0 z0 pc ce x1 x2 x3 : Nat) (ls : Array Slot) (h : ab_H), M ∈ mt → ab_A D dA cl aty oa oo od Ts nc mt B NC NS M d R s m meth c n0 z0 → ls.size = my_l M → ab_th M pc = some (ce, x1, x2, x3) → h.length + 1 ≤ NC → ab_sz h + 6 ≤ NS → ab_R B od D dA cl NC NS s.heap n0 z0 h H locs cells slots →
    W p l e R s m args below meth c H locs cells slots (ab_Q below s B od D dA cl NC NS n0 z0 (.inr (ce, h.length)) (h ++ [.inr (ce, List.replicate 6 .null)])) (F0 m pc ls [])
def ab_TH0 (p : Program) (l : Launch) (e : Env) (B NC NS : Nat) (od : Nat → Nat) (D : va_G) (dA : Nat → ClassId) (cl : List vw_C) (aty : List FieldType) (oa : Nat → Option (FieldType × Nat × (Nat → Value))) (oo : Nat → Option (Nat × List Value)) (Ts : List Cond) (nc : List (Nat × Nat)) (mt : List ab_M) : Prop :=
  ∀ (M : ab_M) (d : Nat) (R : Room) (s : State) (m : MethodId) (args : Array Value) (below : List Frame) (meth : Method) (c : Code) (H : Heap) (locs : List Loc) (cells slots n0 z0 pc ce x1 x3 : Nat) (ls : Array Slot) (h : ab_H), M ∈ mt → ab_A D dA cl aty oa oo od Ts nc mt B NC NS M d R s m meth c n0 z0 → ls.size = my_l M → ab_th0 M pc = some (ce, x1, x3) → h.length + 1 ≤ NC → ab_sz h + 6 ≤ NS → ab_R B od D dA cl NC NS s.heap n0 z0 h H locs cells slots →
    W p l e R s m args below meth c H locs cells slots (ab_Q below s B od D dA cl NC NS n0 z0 (.inr (ce, h.length)) (h ++ [.inr (ce, List.replicate 6 .null)])) (F0 m pc ls [])
set_option maxHeartbeats 8000000 in
theorem ab_sound (hx : p.tables.exec = Jvm.exec) (hSF : ab_SF cl ct cd aty sb Ts mt) (hinj : ∀ w w', (oo w).isSome = true → (oo w').isSome = true → od w = od w' → w = w') (hTH : ab_TH p l e B NC NS od D dA cl aty oa oo Ts nc mt) (hTH0 : ab_TH0 p l e B NC NS od D dA cl aty oa oo Ts nc mt) :
    ∀ (n d mi pc : Nat) (L : ab_L) (S : List Value) (h h' : ab_H) (o : ab_O) (M : ab_M), mt[mi]? = some M → ab_run cl ct cd aty oa oo sb NC NS nc mt n d mi pc L S h = some (o, h') →
    ∀ (R : Room) (s : State) (m : MethodId) (args : Array Value) (below : List Frame) (meth : Method) (c : Code) (H : Heap) (locs : List Loc) (cells slots n0 z0 : Nat) (ls : Array Slot), ab_A D dA cl aty oa oo od Ts nc mt B NC NS M d R s m meth c n0 z0 → ab_R B od D dA cl NC NS s.heap n0 z0 h H locs cells slots → lv_has ls (my_l M) (ab_m B od L) →
    W p l e R s m args below meth c H locs cells slots (ab_Q below s B od D dA cl NC NS n0 z0 o h') (F0 m pc ls (S.map (ab_v B od))) := by
  intro n
  induction n with
  | zero =>
    intro d mi pc L S h h' o M hM hs
    simp [ab_run] at hs
  | succ n ih =>
    intro d mi pc L S h h' o M hM hs R s m args below meth c H locs cells slots n0 z0 ls hA hR hl
    have hMm := List.mem_of_getElem? hM
    obtain ⟨a1, a2, a3, a4, a5, a6, a7, a8, a9, a10, a11, a12, a13, als1, als2, aOO, aSZ, aMI⟩ := id hA
    obtain ⟨hsb, hCS, hgood, hus, hmws, hms⟩ := id hSF
    obtain ⟨hck, hpl⟩ := hms M hMm
    obtain ⟨hTs, hKC, hKA, hNCs, hAO, hST⟩ := id a8
    rw [ab_run, hM] at hs
    dsimp only at hs
    split at hs
    · cases hs
    · rename_i i len tg hfe
      obtain ⟨hdg, hlen, htg⟩ := ab_fe_ok hck hfe
      split at hs
      · rename_i pc' L' S' hs1
        exact ab_s1_ok hx a1 hdg hlen htg hs1 hl (fun ls' hl' => ih d mi pc' L' S' h h' o M hM hs R s m args below meth c H locs cells slots n0 z0 ls' hA hR hl')
      · split at hs
        · rename_i pc' S' h2 hs2
          exact ab_s2_ok hx a1 a5 hTs hKC hCS hKA a9 (fun x n hp => (hpl x n hp).1) (hST M hMm) (fun hi => by rw [a7]; simpa using hi) a10 a11 hdg hlen hs2 hR (fun H' locs' cells' slots' hR' => ih d mi pc' L S' h2 h' o M hM hs R s m args below meth c H' locs' cells' slots' n0 z0 ls hA hR' hl)
        · split at hs
          · rename_i v hs3
            cases hs
            exact ab_rt_ok hx a1 a3 a4 hdg hlen hs3 hR
          · split at hs
            · rename_i pc' S' hs4
              exact ab_sw_ok hx a1 hdg hs4 (ih d mi pc' L S' h h' o M hM hs R s m args below meth c H locs cells slots n0 z0 ls hA hR hl)
            · split at hs
              · rename_i S' hs5
                exact ab_ob_ok hx a1 a5 (hl.1.trans a2.symm) (by omega) (by omega) (fun x a b v hp => by have q := (hpl x _ hp).2.1; exact ⟨hTs _ q.1, hTs _ q.2.1, hTs _ q.2.2⟩) hdg hlen hs5 (ih d mi (pc + 3) L S' h h' o M hM hs R s m args below meth c H locs cells slots n0 z0 ls hA hR hl)
              · split at hs
                · rename_i j as r hcs
                  split at hs
                  · rename_i d' N hN
                    split at hs
                    · rename_i hc
                      obtain ⟨hc1, hc2, hc3⟩ := hc
                      intro T hT X
                      subst hT
                      obtain ⟨hl3, vm₁, mk, methk, ck, kk, hmf, hW₁, X₁, st⟩ := ab_call_ok (ls := ls) X hx a1 a5 hTs hKC aOO (hmws j N hN hc3) (fun x n hp => (hpl x n hp).2.1) (fun x n hp => (hpl x n hp).2.2.2.2.1) hdg hlen hR hcs hN
                      subst hl3
                      obtain ⟨f1, f2, f3, f4, f5, f6, f7, f8, f9, f10, f11, f12, f13⟩ := hmf
                      have hRT : ab_R B od D dA cl NC NS s.heap n0 z0 h (T.setVm vm₁).heap locs cells slots := hR
                      obtain ⟨b1, b2, b3, b4, b5, b6, b7⟩ := id hR
                      have hmk : (T.setVm vm₁).vm.method? mk = some methk := by
                        show vm₁.method? mk = some methk
                        rw [hW₁.alike.method?]; exact f2
                      have hpk : (T.setVm vm₁).plainMethod mk := State.plainMethod.of_named (s := T.setVm vm₁) (hmws j N hN hc3).2.2.1 (X₁.named f1) hmk
                      have hF' : ab_F D dA cl aty od Ts nc mt ((T.setVm vm₁).calling (F0 m pc ls (r.map (ab_v B od))) mk (as.map (ab_v B od)).toArray) := a8.warm hgood hus hW₁
                      have hA' : ab_A D dA cl aty oa oo od Ts nc mt B NC NS N d' { frames := R.frames - 1, cells := R.cells - cells, slots := R.slots - slots, locals := R.locals - 64 } ((T.setVm vm₁).calling (F0 m pc ls (r.map (ab_v B od))) mk (as.map (ab_v B od)).toArray) mk methk ck h.length (ab_sz h) := by
                        refine ⟨f4, f5, f6, f7, ?_, f8, f13, hF', ?_, ?_, ?_, ?_, ?_, als1.kept hW₁.alike b3.2.1, als2.kept hW₁.alike b3.2.1, aOO.kept hW₁.alike b3.2.1, fun M' hM' => (aSZ M' hM').kept hW₁.alike b3.2.1, fun M' hM' => (aMI M' hM').moved hW₁.alike⟩
                        · show vm₁.findClass (my_y N).cls = some mk.cls
                          rw [hW₁.alike.findClass]
                          exact findClass_of_methodNamed f1
                        · exact a9.kept hW₁.alike b3.2.1
                        · show NC ≤ h.length + (R.cells - cells); omega
                        · show NS ≤ ab_sz h + (R.slots - slots); omega
                        · show d' + 8 ≤ R.frames - 1; omega
                        · show 64 * d' + 512 ≤ R.locals - 64; omega
                      have hR0 : ab_R B od D dA cl NC NS T.heap h.length (ab_sz h) h T.heap [] 0 0 := ⟨b1, b2, va_S.rf, rfl, rfl, b6, b7⟩
                      have hl0 := lv_entry (as.map (ab_v B od)) (n := my_l N) (by rw [ab_sl_map]; exact hc2)
                      rw [ab_args_map] at hl0
                      have hsz : (F0 m pc ls (r.map (ab_v B od))).locals.size = c.maxLocals := hl.1.trans a2.symm
                      have hroom : 2 * (F0 m pc ls (r.map (ab_v B od))).monitorRoom + (((F0 m pc ls (r.map (ab_v B od))).stack).map fun v => v.category).sum + (ck.maxLocals + 11) + (R.locals - 64) ≤ R.locals := by
                        have e1 : (F0 m pc ls (r.map (ab_v B od))).monitorRoom = 0 := rfl
                        have e2 : (((F0 m pc ls (r.map (ab_v B od))).stack).map fun v => v.category).sum = ab_wt r := ab_wt_map B od r
                        rw [e1, e2, f5]
                        omega
                      have call : ∀ (o2 : ab_O) (h2 : ab_H), ab_run cl ct cd aty oa oo sb NC NS nc mt n d' j 0 (lv_args 0 as) [] h = some (o2, h2) → ∃ (T' : State) (locs' : List Loc) (cells' slots' : Nat), Stand p l e R s m args below meth c T' locs' cells' slots' ∧ ab_R B od D dA cl NC NS s.heap n0 z0 h2 T'.heap locs' cells' slots' ∧ ∀ acts, Steps p.tables e below (doInvoke e ((T.setVm vm₁).setTop (F0 m pc ls (r.map (ab_v B od)))) acts mk (as.map (ab_v B od)).toArray).1 (ab_nx B od T' (F0 m pc ls (r.map (ab_v B od))) 3 o2) := fun o2 h2 hrun =>
                        ab_into (o := o2) (h' := h2) X₁ hRT (g := F0 m pc ls (r.map (ab_v B od))) rfl hsz (by rw [a1]; exact hdg) (R' := { frames := R.frames - 1, cells := R.cells - cells, slots := R.slots - slots, locals := R.locals - 64 }) (a := (as.map (ab_v B od)).toArray) hmk f3 f7 hpk (by show R.frames - 1 + 1 ≤ R.frames; omega) hroom (by show cells + (R.cells - cells) ≤ R.cells; omega) (by show slots + (R.slots - slots) ≤ R.slots; omega)
                          (by rw [f5, lg_entry_eq]; exact ih d' j 0 (lv_args 0 as) [] h h2 o2 N hN hrun _ _ _ _ _ _ _ _ _ _ _ _ _ _ hA' hR0 hl0)
                      split at hs
                      · rename_i v h2 hrun
                        obtain ⟨T', locs', cells', slots', X', hR', st'⟩ := call _ _ hrun
                        obtain ⟨t, q1, q2⟩ := ih (d' + 1) mi (pc + 3) L (v.toList ++ r) h2 h' o M hM hs R s m args below meth c T'.heap locs' cells' slots' n0 z0 ls hA hR' hl T' rfl X'
                        refine ⟨t, st t (fun acts => (st' acts).trans ?_), q2⟩
                        cases v <;> exact q1
                      · rename_i ce q h2 hrun
                        obtain ⟨T', locs', cells', slots', X', hR', st'⟩ := call _ _ hrun
                        split at hs
                        · rename_i hnil
                          cases hs
                          have hfind : Finds e ((T'.setTop (F0 m pc ls (r.map (ab_v B od)))).pushFrame (.throwing (B + q))) (F0 m pc ls (r.map (ab_v B od))) (B + q) .none :=
                            Finds.outside (meth := meth) (code := c) X'.method' X'.code (by rw [a6, hnil]; intro y hy; cases hy)
                          have hAt : At T' (F0 m pc ls (r.map (ab_v B od))).method c below := X'.here
                          obtain ⟨g₀, hfr⟩ := X'.frames_eq
                          refine ⟨T'.setFrames (.throwing (B + q) :: below), st _ (fun acts => (st' acts).trans (Steps.thrownOut hAt (meth := meth) X'.method' a4 rfl rfl hfind ?_)), X'.here.running, State.frames_setFrames _ (State.cur_lt_of_frames hfr), (X'.ends _).1, locs', cells', slots', (X'.ends _).2, hR'⟩
                          rw [X'.tail]
                          exact Steps.refl _
                        · split at hs
                          · rename_i hix
                            split at hs
                            · rename_i hp hh
                              obtain ⟨fs, hq⟩ := ab_isx_ok hix
                              obtain ⟨rc, hrc, cell, q1, q2, q3, q4⟩ := hR'.1 q _ hq
                              have hplat : e.platform.magicAccessors = ({} : Platform).magicAccessors := by rw [X'.admits.platform]
                              obtain ⟨vm', hW', hgo⟩ := ab_srch (a := B + q) (g := F0 m pc ls (r.map (ab_v B od))) (cell := cell) hplat a5 hTs hKC hNCs (fun x n hp => (hpl x n hp).2.2.1) q2 (fun k hk => by rw [q3] at hk; cases hk) ⟨rc, hrc⟩ (my_h M) ((T'.setTop (F0 m pc ls (r.map (ab_v B od)))).pushFrame (.throwing (B + q))) X'.warmed q1 hh
                              have hfind : ab_Fd e ((T'.setTop (F0 m pc ls (r.map (ab_v B od)))).pushFrame (.throwing (B + q))) (F0 m pc ls (r.map (ab_v B od))) (B + q) (.found hp) vm' := fun Q E dd acts => by
                                rw [W.findHandler_eq (meth := meth) (code := c) X'.method' X'.code, a6]
                                exact hgo Q E dd acts
                              have X2 := X'.noted hW'
                              obtain ⟨t, z1, z2⟩ := ih (d' + 1) mi hp L [.ref q] h2 h' o M hM hs R s m args below meth c T'.heap locs' cells' slots' n0 z0 ls hA hR' hl (T'.setVm vm') rfl X2
                              exact ⟨t, st t (fun acts => (st' acts).trans (ab_caught X'.here hfind z1)), z2⟩
                            · cases hs
                          · cases hs
                      · cases hs
                    · cases hs
                  · cases hs
                · split at hs
                  · rename_i ce x1 x2 x3 hth
                    split at hs
                    · rename_i hc
                      obtain ⟨hc1, hc2, rfl⟩ := hc
                      cases hs
                      exact hTH M d R s m args below meth c H locs cells slots n0 z0 pc ce x1 x2 x3 ls h hMm hA hl.1 hth hc1 hc2 hR
                    · cases hs
                  · split at hs
                    · rename_i ce x1 x3 hth
                      split at hs
                      · rename_i hc
                        obtain ⟨hc1, hc2, rfl⟩ := hc
                        cases hs
                        exact hTH0 M d R s m args below meth c H locs cells slots n0 z0 pc ce x1 x3 ls h hMm hA hl.1 hth hc1 hc2 hR
                      · cases hs
                    · split at hs
                      · rename_i pc' S' h2 hs4
                        exact ab_s4_ok hx a1 a5 hTs hKC hKA hAO a9 hinj aOO (aSZ M hMm) hsb (fun x n hp => (hpl x n hp).1) (fun x n hp => (hpl x n hp).2.2.2.1) a10 a11 hdg hlen htg hs4 hR (fun H' locs' cells' slots' hR' => ih d mi pc' L S' h2 h' o M hM hs R s m args below meth c H' locs' cells' slots' n0 z0 ls hA hR' hl)
                      · split at hs
                        · rename_i pc' S' h2 hs5
                          exact ab_s5_ok hx a1 (a2.trans hl.1.symm) a5 hTs hKC hKA aOO (aMI M hMm) hsb (fun x n hp => (hpl x n hp).2.2.2.1) (fun x n hp => (hpl x n hp).2.2.2.2.2) (by omega) (by omega) a10 a11 hdg hlen hs5 hR (fun H' locs' cells' slots' hR' => ih d mi pc' L S' h2 h' o M hM hs R s m args below meth c H' locs' cells' slots' n0 z0 ls hA hR' hl)
                        · cases hs
end AB7
