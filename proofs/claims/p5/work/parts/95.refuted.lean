/-- THE CLAIM IS FALSE: its own witness, witness_1, is the premise -/
theorem refuted_where_witnessed (hw : WitnessClaimed_1) : ¬ Claimed_1_2 := by
  obtain ⟨p, e, s, m, args, below, hLs, hW, had, -, hfc, hfk, hfr, hfit, hhp, happ, -, hrest, hpre⟩ := hw
  have hpre' : (Jvm.Cond.and given_1 narrow_1).before args s = true := hpre
  rw [Cond.before_and, Bool.and_eq_true] at hpre'
  obtain ⟨hgiv, hnar⟩ := hpre'
  have hrest' : rest_1_c.before args s = true := hrest
  rw [rest_1_c, Cond.before_and, Bool.and_eq_true] at hrest'
  have hnf := flat_of_before _ hnar
  have harr : (Jvm.Cond.arrayOf (.arg 0) .int).before args s = true := hnf _ (List.contains_iff_mem.mp zs_in)
  obtain ⟨b, xs, hb, hI⟩ := State.ints_of_pre (t := .arg 0) rfl harr hrest'.1 hrest'.2
  obtain ⟨cell, hc1, hc2, ⟨hc3, k, hk, comp, hkind⟩, hc4⟩ := hI
  have hcnt : args.size = 1 := by
    have h : (Jvm.Cond.count 1).before args s = true := flat_of_before _ hgiv _ (by decide)
    rw [zs_b] at h
    simpa [Cond.value] using h
  have hargs : args = #[.ref b] := args1'' hcnt hb
  subst hargs
  have hcur : s.cur < s.threads.size := by
    rcases Nat.lt_or_ge s.cur s.threads.size with h | h
    · exact h
    · exfalso
      unfold State.frames at hfr
      rw [Array.getElem?_eq_none h] at hfr
      cases hfr
  unfold Spec.applies at happ
  rw [hfr] at happ
  simp only [Bool.and_eq_true, decide_eq_true_eq] at happ
  obtain ⟨⟨⟨⟨⟨⟨⟨a1, a2⟩, a3⟩, a4⟩, a5⟩, a6⟩, a7⟩, a8⟩ := happ
  have hts : ∀ w ∈ (Jvm.Cond.code x code maxLocals ret :: tables_1), w.before #[Value.ref b] s = true := atoms_spec (ws := Jvm.Cond.code x code maxLocals ret :: tables_1) a8
  obtain ⟨meth, cd, hm1, hm2, -, hm3, -⟩ := Cond.code_spec a4 (hts _ List.mem_cons_self)
  unfold State.hasRoom at a7
  simp only [Bool.and_eq_true, decide_eq_true_eq] at a7
  obtain ⟨⟨⟨⟨r0, r1⟩, r2⟩, r3⟩, r4⟩ := a7
  unfold State.ripe at a6
  rw [Bool.and_eq_true] at a6
  have hfr' : (zs_s s m cell.cls).frames = Frame.invoking m #[.ref s.heap.size] :: [.native { method := m, args := #[] }] := by
    unfold zs_s
    exact State.frames_setFrames _ hcur
  have hI' : (zs_s s m cell.cls).IntsAt s.heap.size z_sc := zs_ints hk hkind
  have hmx : maxLocals ≤ 64 := by decide
  have hlo : (zs_s s m cell.cls).localsInUse = 2048 + (maxLocals + 11) := by
    unfold State.localsInUse
    rw [hfr']
    show 2048 + ((((s.vm.method? m).bind (·.code)).map (·.maxLocals)).getD 0 + 11) = _
    rw [hm1]
    simp [hm2, hm3]
  have hsb : (zs_s s m cell.cls).me.stackBytes = 0 := by
    unfold zs_s
    rw [State.stackBytes_setFrames]
    exact r1.2.2.2.2
  have hsl : ∀ P : Platform, P.stackLimits (zs_s s m cell.cls).me = (P.maxFrames, P.maxStackSlots) := by
    intro P
    simp [Platform.stackLimits, Platform.limitsFor, hsb]
  have f1 : 4096 ≤ e.platform.maxFrames := had.2.2.2.2.2.1
  have f2 : 106760 ≤ e.platform.maxStackSlots := had.2.2.2.2.2.2.2.2.2.2.2.2.1
  refine zs_false (l := launch0) (p := p) (e := { e with platform := { e.platform with maxCells := e.platform.maxCells + 1, maxSlots := e.platform.maxSlots + z_sc.length } }) (s := zs_s s m cell.cls) (m := m) (b := s.heap.size) rfl hLs hW (zs_adm had 1 z_sc.length) hfc hfk hfr' (zs_fit hfit) (zs_hf hk hkind hhp) ?_ ?_ ?_ hI'
  · unfold Spec.applies
    rw [hfr']
    simp only [Bool.and_eq_true, decide_eq_true_eq]
    refine ⟨⟨⟨⟨⟨⟨⟨a1, ?_⟩, ?_⟩, a4⟩, rfl⟩, ?_⟩, ?_⟩, ?_⟩
    · unfold zs_s
      rw [State.curStatus?_setFrames]
      exact a2
    · unfold zs_s
      rw [State.alone_setFrames]
      exact a3
    · unfold State.ripe
      rw [Bool.and_eq_true]
      refine ⟨a6.1, ?_⟩
      simp [constructedBy]
    · unfold State.hasRoom
      simp only [Bool.and_eq_true, decide_eq_true_eq]
      refine ⟨⟨⟨⟨?_, ?_⟩, ?_⟩, ?_⟩, ?_⟩
      · rw [hlo]
        show 2048 + (maxLocals + 11) + 84000 + 10240 ≤ 117931
        clear hlo hm3
        revert hmx
        generalize maxLocals = ml
        intro hmx
        omega
      · rw [hlo, hsl, hfr']
        show 2 + 2048 ≤ e.platform.maxFrames ∧ 2 + 2048 ≤ e.platform.maxFrames ∧ 2048 + (maxLocals + 11) + 84000 ≤ e.platform.maxStackSlots ∧ 2048 + (maxLocals + 11) + 84000 ≤ e.platform.maxStackSlots ∧ (zs_s s m cell.cls).me.stackBytes = 0
        have hq : 2048 + (maxLocals + 11) + 84000 ≤ e.platform.maxStackSlots := by
          clear hlo hm3
          revert hmx
          generalize maxLocals = ml
          intro hmx
          omega
        exact ⟨by omega, by omega, hq, hq, hsb⟩
      · show (s.heap.push (zs_nc cell.cls)).size + room_1.cells ≤ e.platform.maxCells + 1
        have r2' : s.heap.size + room_1.cells ≤ e.platform.maxCells := r2
        rw [Array.size_push]
        omega
      · show s.slotsUsed + z_sc.length + room_1.slots ≤ e.platform.maxSlots + z_sc.length
        have r3' : s.slotsUsed + room_1.slots ≤ e.platform.maxSlots := r3
        omega
      · unfold State.slotsTrue at r4 ⊢
        show (s.slotsUsed + z_sc.length == (s.heap.push (zs_nc cell.cls)).foldl (fun n c => n + c.slots.size) 0) = true
        have r4' := beq_iff_eq.mp r4
        rw [Array.foldl_push, ← r4']
        simp [zs_nc]
    · exact atoms_intro (ws := Jvm.Cond.code x code maxLocals ret :: tables_1) fun w hw => zs_keep (List.all_eq_true.mp zs_tab w hw) (hts w hw)
  · show rest_1_c.before #[.ref s.heap.size] (zs_s s m cell.cls) = true
    rw [rest_1_c, Cond.before_and, Bool.and_eq_true]
    constructor
    · rw [zs_b]
      simp only [Cond.value, hI'.length_eval (t := .arg 0) (args := #[.ref s.heap.size]) (first := zs_s s m cell.cls) (o := none) (idx := []) rfl]
      rfl
    · rw [zs_b]
      refine hI'.all_value rfl fun j hj => ?_
      simp only [Cond.value, hI'.elem_nat (t := .arg 0) (i := .index 0) (k := j) (args := #[.ref s.heap.size]) (first := zs_s s m cell.cls) (o := none) (idx := [j]) rfl rfl hj]
      rfl
  · show (Jvm.Cond.and given_1 narrow_1).before #[.ref s.heap.size] (zs_s s m cell.cls) = true
    rw [Cond.before_and, Bool.and_eq_true]
    refine ⟨rfl, zs_flat narrow_1 fun w hw => ?_⟩
    have h := List.all_eq_true.mp zs_nar w hw
    simp only [Bool.or_eq_true, decide_eq_true_eq] at h
    rcases h with (h | rfl) | rfl
    · exact zs_keep h (hnf w hw)
    · rw [zs_b]
      exact hI'.arrayOf_value rfl
    · rw [zs_b]
      simp only [Cond.value, hI'.length_eval (t := .arg 0) (args := #[.ref s.heap.size]) (first := zs_s s m cell.cls) (o := none) (idx := []) rfl]
      exact (by decide : some (decide (z_sc.length.toInt32 ≤ 3072)) = some true)
theorem claim_false_where_witnessed (hw : WitnessClaimed_1) : ¬ (Claimed_1_1 ∧ Claimed_1_2) := fun h => refuted_where_witnessed hw h.2
