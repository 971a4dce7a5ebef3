/-! THE REFUTATION: the claim is false where its own witness stands (witness_1 : WitnessClaimed_1) -/
theorem zs_false {l : Launch} {p : Program} {e : Env} {s : State} {m : MethodId} {b : Addr} {below : List Frame} (hfl : l.flags = flags0) (hLs : Lists l classFile x code maxLocals ret tables_1 room_1) (hW : World_1 l) (had : l.admits e) (hfc : FairCas e.choices) (hfk : FairClock e.choices) (hfr : s.frames = Frame.invoking m #[.ref b] :: below) (hfit : argsFit s.vm m #[.ref b] = true) (hhp : heapFits s = true) (happ : (headSpec (Jvm.Cond.code x code maxLocals ret :: tables_1) room_1).applies x e.platform s = true) (hrest : rest_1 p.tables e #[.ref b] s) (hpre : Pre_1 p.tables e #[.ref b] s) (hsc : s.IntsAt b z_sc) : ¬ Claimed_1_2 := by
  intro hC
  obtain ⟨n1, o1, w1, r1, e1, q1⟩ := hC l hfl hLs hW p e had hfc hfk s m #[.ref b] below hfr hfit hhp happ ⟨trivial, hrest, hpre⟩
  obtain ⟨n2, o2, w2, r2, e2, q2⟩ := law_answers_0 l hfl b p e had hfc hfk s m #[.ref b] below hfr ((Spec.applies_iff_loose hfr).mp happ).1 ⟨rfl, hsc, hpre⟩ trivial
  have hn : n1 = n2 := by
    rcases Nat.lt_trichotomy n1 n2 with h | h | h
    · exact absurd (w2 n1 h) (z_notW e1)
    · exact h
    · exact absurd (w1 n2 h) (z_notW e2)
  subst hn
  obtain ⟨ho2, -⟩ := q2
  subst ho2
  have ho : o1 = .returned (some (.int 0)) := z_same e1 e2
  subst ho
  have z := Cond.after_iff.mp q1.1
  rw [show limb_1_2 = Cond.eq .result (.int 1) from rfl, Cond.eq_ints (x := 0) (y := 1) rfl rfl] at z
  exact absurd z (by decide)
theorem zs_fit {vm : Vm} {m : MethodId} {b b' : Addr} (h : argsFit vm m #[.ref b] = true) : argsFit vm m #[.ref b'] = true := by
  unfold argsFit at h ⊢
  cases hm : (vm.classes[m.cls]?).bind (·.methods[m.idx]?) with
  | none => rw [hm] at h; cases h
  | some meth =>
    rw [hm] at h
    dsimp only at h ⊢
    cases hs : meth.isStatic with
    | true =>
      rw [hs] at h
      have h1 : kindsFit meth.sig.parameters [Value.ref b] = true := h
      show kindsFit meth.sig.parameters [Value.ref b'] = true
      revert h1
      cases meth.sig.parameters with
      | nil => intro h1; cases h1
      | cons t ts =>
        intro h1
        have h2 : (kindFits t (.ref b) && kindsFit ts []) = true := h1
        show (kindFits t (.ref b') && kindsFit ts []) = true
        rw [show kindFits t (.ref b') = kindFits t (.ref b) by cases t <;> rfl]
        exact h2
    | false => rw [hs] at h; exact h
theorem zs_adm {l : Launch} {e : Env} (h : l.admits e) (c n : Nat) : l.admits { e with platform := { e.platform with maxCells := e.platform.maxCells + c, maxSlots := e.platform.maxSlots + n } } := by
  obtain ⟨h1, h2, h3, h4, h5, h6, h7, h8, h9⟩ := h
  refine ⟨h1, h2, h3, h4, ?_, h6, Nat.le_trans h7 (Nat.le_add_right _ _), Nat.le_trans h8 (Nat.le_add_right _ _), h9⟩
  exact (congrArg (fun P : Platform => { P with maxCells := P.maxCells + c, maxSlots := P.maxSlots + n }) h5)
def zs_nc (c : ClassId) : Cell := { cls := c, slots := (z_sc.map Value.int).toArray }
def zs_s (s : State) (m : MethodId) (c : ClassId) : State := (zs_T s (s.heap.push (zs_nc c)) (s.slotsUsed + z_sc.length)).setFrames [.invoking m #[.ref s.heap.size], .native { method := m, args := #[] }]
section
variable {s : State} {m : MethodId} {c : ClassId} {k : Jvm.Class} {comp : ClassId} {A A' : Array Value}
theorem zs_keep {w : Jvm.Cond} (h : zs_cf w = true) (hb : w.before A s = true) : w.before A' (zs_s s m c) = true := by
  unfold zs_s
  rw [Cond.before_setFrames]
  refine zs_c (fun a q hq => ?_) w h hb
  have hlt := (Array.getElem?_eq_some_iff.mp hq).1
  rw [Array.getElem?_push, if_neg (by omega)]
  exact hq
theorem zs_ints (hk : s.vm.classes[c]? = some k) (hkind : k.kind = .array comp .int) : (zs_s s m c).IntsAt s.heap.size z_sc := by
  refine ⟨zs_nc c, ?_, by simp [zs_nc], ⟨fun q h => VmData.noConfusion (show VmData.none = VmData.statics q from h), k, hk, comp, hkind⟩, by decide⟩
  have h1 : (zs_s s m c).heap[s.heap.size]? = some (zs_nc c) := by
    show (s.heap.push (zs_nc c))[s.heap.size]? = some (zs_nc c)
    simp
  have h2 : (zs_s s m c).vm.classes[(zs_nc c).cls]? = some k := hk
  have h3 : (zs_nc c).vm = .none := rfl
  simp [State.arrayAt?, h1, h2, hkind, h3, VmData.isStatics]
theorem zs_hf (hk : s.vm.classes[c]? = some k) (hkind : k.kind = .array comp .int) (h : heapFits s = true) : heapFits (zs_s s m c) = true := by
  unfold heapFits at h ⊢
  show (s.heap.push (zs_nc c)).all (cellFits s) = true
  have hn : cellFits s (zs_nc c) = true := by
    unfold cellFits
    rw [List.all_eq_true]
    intro i _
    split
    · rename_i v hv
      have hm := Array.mem_of_getElem? hv
      have hx : ∃ q, v = Value.int q := by
        simp only [zs_nc, List.mem_toArray, List.mem_map] at hm
        obtain ⟨q, -, rfl⟩ := hm
        exact ⟨q, rfl⟩
      obtain ⟨q, rfl⟩ := hx
      simp [State.fitsSlot, State.slotType?, zs_nc, hk, hkind, fits]
    · rfl
  rw [Array.all_push, h, hn]
  rfl
end
