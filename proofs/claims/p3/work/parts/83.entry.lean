/-! the law, in the kit's model -/
theorem x_nt {l : Launch} (hf : l.flags = flags0) : l.stackTraces = false := by
  unfold Launch.stackTraces
  rw [hf]
  decide
theorem x_start {p : Program} {e : Env} {s : State} {m : MethodId} {below : List Frame} {meth : Method} {c : Code} (l : Launch) (hnt : l.stackTraces = false) {b L : Nat} {xs : Nat → Int32} (hL : L ≤ 3072) (hx : p.tables.exec = Jvm.exec) (hcode : c.code = code) (hret : meth.sig.returnType = ret) (hml : c.maxLocals = 8) (hown : s.vm.findClass "NotationReaderLaw" = some m.cls) (hts : ∀ w ∈ lw_tbl, w.before #[Value.ref b] s = true) (hX : va_X b L xs s s.heap) (hb : b < s.heap.size) (hlk : meth.locks = false) (hnar : x_nar.before #[Value.ref b] s = true) (het : c.exceptionTable.isEmpty = true) (hnm : meth.name = "law") :
    W p l e room_1 s m #[Value.ref b] below meth c s.heap [] 0 0 (fun t => ∃ o, t.status = .running ∧ Ended t below o ∧ o = .returned (some (.int 1)) ∧ Framed s o t [] 601024 7293034) (entryFrame m ([Value.ref b] : List Value).toArray 8) := by
  obtain ⟨D, hKC⟩ := x_KC hts
  obtain ⟨dA, hKA⟩ := x_KA hts
  have hvS : x_vS b s = .null ∨ ∃ w, x_vS b s = .float w := by
    unfold x_vS
    split
    · exact Or.inr ⟨_, rfl⟩
    · exact Or.inl rfl
  obtain ⟨o, h', ⟨K, hrun⟩, ho⟩ := l_start (e := (x_vS b s, L, xs, 601024, 7293034, 9)) (d := 600) hvS rfl rfl hL rfl
  subst ho
  have hrun0 : ab_run x_cl x_ct x_cd x_aty (x_oa L xs) x_oo x_sb 601024 7293034 x_nc (x_mt (x_vS b s)) (0 + K) 1000 0 0 [(0, .float 0)] [] [] = some (.inl (some (.int 1)), h') := hrun 0
  have hA : ab_A D dA x_cl x_aty (x_oa L xs) x_oo (x_od b s) x_Ts x_nc (x_mt (x_vS b s)) s.heap.size 601024 7293034 xM0 1000 room_1 s m meth c 0 0 := by
    refine ⟨hcode, hml, hret, hlk, hown, ?_, hnm, x_F hnar hts hKC hKA, x_OA hnar hb hX, by decide, by decide, by decide, by decide, x_LS1 hnar hts, x_LS2 hnar hts, x_OO hnar, x_SZ hnar hts, x_MI hnar hts⟩
    rw [Array.isEmpty_iff.mp het]
    rfl
  have hR : ab_R s.heap.size (x_od b s) D dA x_cl 601024 7293034 s.heap 0 0 [] s.heap [] 0 0 := ⟨fun k x h => by simp at h, rfl, va_S.rf, rfl, rfl, by decide, by decide⟩
  have hl0 := lv_entry ([Value.float 0].map (ab_v s.heap.size (x_od b s))) (n := 8) (by rw [ab_sl_map]; decide)
  rw [ab_args_map] at hl0
  have z := ab_sound (p := p) (l := l) (e := e) hx (x_SF (x_vS b s)) (x_inj hnar) (ab_TH_ok hx hnt (x_SF (x_vS b s)) (x_P9 (x_vS b s))) (ab_TH0_ok hx hnt (x_SF (x_vS b s)) (x_P9 (x_vS b s))) (0 + K) 1000 0 0 [(0, .float 0)] [] [] h' (.inl (some (.int 1))) xM0 rfl hrun0 room_1 s m #[Value.ref b] below meth c s.heap [] 0 0 0 0 _ hA hR hl0
  intro T hT X
  have hE : entryFrame m ([Value.ref b] : List Value).toArray 8 = F0 m 0 ((lg_sl ([Value.float 0].map (ab_v s.heap.size (x_od b s))) ++ List.replicate (8 - (lg_sl ([Value.float 0].map (ab_v s.heap.size (x_od b s)))).length) Slot.unset).toArray) ([].map (ab_v s.heap.size (x_od b s))) := by
    show entryFrame m ([Value.float 0].map (ab_v s.heap.size (x_od b s))).toArray 8 = F0 m 0 _ []
    rw [lg_entry_eq]
  rw [hE]
  obtain ⟨t, st, h1, h2, h3, Lc, k, q, h4, h5⟩ := z T hT X
  refine ⟨t, st, _, h1, h2, rfl, ⟨_, rfl⟩, h3, ?_⟩
  have h6 : s.sameButNew ({ t with vm := s.vm } : State) [] k q := State.sameButNew.drop_fresh (L := []) (J := Lc) h4 (fun x hx => h5.2.2.1.2.2 x hx)
  exact h6.mono (by have := h5.2.2.2.1; have := h5.2.2.2.2.2.1; omega) (by have := h5.2.2.2.2.1; have := h5.2.2.2.2.2.2; omega)
