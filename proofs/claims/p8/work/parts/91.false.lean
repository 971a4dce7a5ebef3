/-! from EVERY start that the Statement allows, with this script, the law returns and answers 0 -/
theorem x_nt {l : Launch} (hf : l.flags = flags0) : l.stackTraces = false := by
  unfold Launch.stackTraces
  rw [hf]
  decide
theorem z_start {p : Program} {e : Env} {s : State} {m : MethodId} {below : List Frame} {meth : Method} {c : Code} (l : Launch) (hnt : l.stackTraces = false) {b : Nat} (hx : p.tables.exec = Jvm.exec) (hcode : c.code = code) (hret : meth.sig.returnType = ret) (hml : c.maxLocals = 8) (hown : s.vm.findClass "NotationReaderLaw" = some m.cls) (hts : ∀ w ∈ lw_tbl, w.before #[Value.ref b] s = true) (hX : va_X b 18 (fun j => z_sc.getD j 0) s s.heap) (hb : b < s.heap.size) (hlk : meth.locks = false) (hnar : x_nar.before #[Value.ref b] s = true) (het : c.exceptionTable.isEmpty = true) (hnm : meth.name = "law") :
    W p l e room_1 s m #[Value.ref b] below meth c s.heap [] 0 0 (fun t => ∃ o, t.status = .running ∧ Ended t below o ∧ o = .returned (some (.int 0)) ∧ Framed s o t [] 601024 7293034) (entryFrame m ([Value.ref b] : List Value).toArray 8) := by
  obtain ⟨D, hKC⟩ := x_KC hts
  obtain ⟨dA, hKA⟩ := x_KA hts
  obtain ⟨h', hrun⟩ := z_run b s
  have hA : ab_A D dA x_cl x_aty (x_oa 18 (fun j => z_sc.getD j 0)) x_oo (x_od b s) x_Ts x_nc (x_mt (x_vS b s)) s.heap.size 601024 7293034 xM0 1000 room_1 s m meth c 0 0 := by
    refine ⟨hcode, hml, hret, hlk, hown, ?_, hnm, x_F hnar hts hKC hKA, x_OA hnar hb hX, by decide, by decide, by decide, by decide, x_LS1 hnar hts, x_LS2 hnar hts, x_OO hnar, x_SZ hnar hts, x_MI hnar hts⟩
    rw [Array.isEmpty_iff.mp het]
    rfl
  have hR : ab_R s.heap.size (x_od b s) D dA x_cl 601024 7293034 s.heap 0 0 [] s.heap [] 0 0 := ⟨fun k x h => by simp at h, rfl, va_S.rf, rfl, rfl, by decide, by decide⟩
  have hl0 := lv_entry ([Value.float 0].map (ab_v s.heap.size (x_od b s))) (n := 8) (by rw [ab_sl_map]; decide)
  rw [ab_args_map] at hl0
  have z := ab_sound (p := p) (l := l) (e := e) hx (x_SF (x_vS b s)) (x_inj hnar) (ab_TH_ok hx hnt (x_SF (x_vS b s)) (x_P9 (x_vS b s))) (ab_TH0_ok hx hnt (x_SF (x_vS b s)) (x_P9 (x_vS b s))) 100000 1000 0 0 [(0, .float 0)] [] [] h' (.inl (some (.int 0))) xM0 rfl hrun room_1 s m #[Value.ref b] below meth c s.heap [] 0 0 0 0 _ hA hR hl0
  intro T hT X
  have hE : entryFrame m ([Value.ref b] : List Value).toArray 8 = F0 m 0 ((lg_sl ([Value.float 0].map (ab_v s.heap.size (x_od b s))) ++ List.replicate (8 - (lg_sl ([Value.float 0].map (ab_v s.heap.size (x_od b s)))).length) Slot.unset).toArray) ([].map (ab_v s.heap.size (x_od b s))) := by
    show entryFrame m ([Value.float 0].map (ab_v s.heap.size (x_od b s))).toArray 8 = F0 m 0 _ []
    rw [lg_entry_eq]
  rw [hE]
  obtain ⟨t, st, h1, h2, h3, Lc, k, q, h4, h5⟩ := z T hT X
  refine ⟨t, st, _, h1, h2, rfl, ⟨_, rfl⟩, h3, ?_⟩
  have h6 : s.sameButNew ({ t with vm := s.vm } : State) [] k q := State.sameButNew.drop_fresh (L := []) (J := Lc) h4 (fun x hx => h5.2.2.1.2.2 x hx)
  exact h6.mono (by have := h5.2.2.2.1; have := h5.2.2.2.2.2.1; omega) (by have := h5.2.2.2.2.1; have := h5.2.2.2.2.2.2; omega)
def z_Q (_ : Array Value) (s : State) (o : Outcome) (t : State) : Prop := o = .returned (some (.int 0)) ∧ Framed s o t [] 601024 7293034
/-- THE REFUTATION, but for one thing: that there is a start with this script (witness_1 has one with a script of its own) -/
theorem law_answers_0 (l : Launch) (hfl : l.flags = flags0) (b : Addr) : MetFree l x (headSpec (Jvm.Cond.code x code maxLocals ret :: tables_1) room_1) (fun args s => args = #[.ref b] ∧ s.IntsAt b z_sc ∧ (Jvm.Cond.and given_1 narrow_1).before args s = true) (fun _ _ _ _ _ => True) z_Q := by
  refine MetFree.of_bodyS (code := code) (maxLocals := maxLocals) (ret := ret) (by decide) ?_ ?_
  · intro args s m h hn
    obtain ⟨meth, c, h1, h2, h3, h4, h5, h6, -, -⟩ := Cond.code_spec hn (atoms_spec (ws := Jvm.Cond.code x code maxLocals ret :: tables_1) h _ List.mem_cons_self)
    exact ⟨meth, c, h1, h2, h3, h4, h5, h6⟩
  · intro p e s m args below meth c s₁ B hml0 hP _
    obtain ⟨rfl, hx, hgv⟩ := hP
    obtain ⟨scr, harrAt, hlist, hof, hsmall⟩ := hx
    obtain ⟨hcb, hkn, -, -⟩ := State.arrayAt?_spec harrAt
    have hown : s.vm.findClass "NotationReaderLaw" = some m.cls := findClass_of_methodNamed B.named
    have hts0 : ∀ c ∈ (Jvm.Cond.code x code maxLocals ret :: tables_1), c.before #[Value.ref b] s = true := atoms_spec (ws := Jvm.Cond.code x code maxLocals ret :: tables_1) B.pre
    have hts : ∀ w ∈ lw_tbl, w.before #[Value.ref b] s = true := k2_hts_sels lw_privs (fun w hw => hts0 w (List.mem_cons_of_mem _ hw)) lw_privs_ok
    have hml : c.maxLocals = 8 := B.maxLocals_eq (hts0 _ List.mem_cons_self)
    have het : c.exceptionTable.isEmpty = true := by
      obtain ⟨meth', c', hm', hc', -, -, -, -, he', -⟩ := Cond.code_spec B.named (hts0 _ List.mem_cons_self)
      cases B.method.symm.trans hm'
      cases (Stand.of_body B).code.symm.trans hc'
      exact he'
    have hnm : meth.name = "law" := (name_of_methodNamed B.named B.method).1
    have X₀ : Stand p l e room_1 s m #[Value.ref b] below meth c s₁ [] 0 0 := Stand.of_body B
    have hh0 : s₁.heap = s.heap := by rw [B.state]; rfl
    have hsz : scr.slots.size = z_sc.length := by rw [← Array.length_toList, hlist, List.length_map]
    have hval : ∀ j : Nat, j < z_sc.length → scr.slots[j]? = some (.int (z_sc.getD j 0)) := fun j hj => by
      rw [← Array.getElem?_toList, hlist]
      simp [hj]
    have hbl : b < s.heap.size := (Array.getElem?_eq_some_iff.mp hcb).1
    have hX : va_X b 18 (fun j => z_sc.getD j 0) s s.heap := ⟨scr, hcb, hof, hkn, hsz, hval⟩
    have K : W p l e room_1 s m #[Value.ref b] below meth c s₁.heap [] 0 0 (fun t => ∃ o, t.status = .running ∧ Ended t below o ∧ z_Q #[Value.ref b] s o t) (entryFrame m ([Value.ref b] : List Value).toArray 8) := by
      rw [hh0]
      exact z_start l (x_nt hfl) B.exec B.bytes B.returns hml hown hts hX hbl B.notSynchronized hgv het hnm
    obtain ⟨t, a1, o, b1, b2, b3⟩ := K s₁ rfl X₀
    exact ⟨t, o, a1, b1, b2, b3⟩
