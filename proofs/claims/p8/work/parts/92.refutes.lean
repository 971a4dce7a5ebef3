/-! one start with this script is enough: then the claim is false -/
theorem z_len {t : State} {below : List Frame} {v : Option Value} (h : Ended t below (.returned v)) : t.frames.length = below.length := by
  unfold Ended at h
  dsimp only at h
  split at h
  · obtain ⟨c, i, n, -, -, h⟩ := h
    rw [h]; rfl
  · rw [h]; rfl
  · rw [h]; rfl
  · rw [h.2]
theorem z_notW {t : State} {below : List Frame} {o : Outcome} (h : Ended t below o) : ¬ Within t below := by
  rintro ⟨above, h1, h2, h3⟩
  cases o with
  | threw a =>
    have h4 : t.frames = [.throwing a] ++ below := h
    exact h3 a (List.append_cancel_right (h1.symm.trans h4))
  | returned v =>
    have h4 := z_len h
    rw [h1, List.length_append] at h4
    exact h2 (List.eq_nil_of_length_eq_zero (by omega))
theorem z_same {t : State} {below : List Frame} {o : Outcome} {w : Value} (h1 : Ended t below o) (h2 : Ended t below (.returned (some w))) : o = .returned (some w) := by
  have hl := z_len h2
  cases o with
  | threw a =>
    have h4 : t.frames = [.throwing a] ++ below := h1
    rw [h4, List.length_append] at hl
    simp at hl
  | returned v =>
    unfold Ended at h1 h2
    dsimp only at h1 h2
    split at h1
    · obtain ⟨c, i, n, -, -, f1⟩ := h1
      obtain ⟨c', i', n', -, -, f2⟩ := h2
      rw [f1] at f2
      simp only [List.cons.injEq, Frame.java.injEq, JFrame.mk.injEq] at f2
      have z : v.toList = (some w).toList := List.append_cancel_right f2.1.2.2.2.1
      cases v with
      | none => simp at z
      | some u => simp at z; rw [z]
    · rw [h1] at h2
      simp at h2
      rw [h2]
    · rw [h1] at h2
      simp at h2
      rw [h2]
    · rename_i n1 n2 n3
      split at h2
      · exact (n1 _ _ rfl).elim
      · exact (n2 _ _ rfl).elim
      · exact (n3 _ _ rfl).elim
      · cases h2.1
theorem claim_false_at_a_start {l : Launch} {p : Program} {e : Env} {s : State} {m : MethodId} {b : Addr} {below : List Frame} (hfl : l.flags = flags0) (hA : AtStart classFile x code maxLocals ret World_1 tables_1 room_1 Calls_1 rest_1 Pre_1 l p e s m #[.ref b] below) (hsc : s.IntsAt b z_sc) : ¬ (Claimed_1_1 ∧ Claimed_1_2) := by
  rintro ⟨-, hC⟩
  obtain ⟨hLs, hW, had, -, hfc, hfk, hfr, hfit, hhp, happ, hcalls, hrest, hpre⟩ := hA
  obtain ⟨n1, o1, w1, r1, e1, q1⟩ := hC l hfl hLs hW p e had hfc hfk s m #[.ref b] below hfr hfit hhp happ ⟨hcalls, hrest, hpre⟩
  obtain ⟨n2, o2, w2, r2, e2, q2⟩ := law_answers_0 l hfl b p e had hfc hfk s m #[.ref b] below hfr ((Spec.applies_iff_loose hfr).mp happ).1 ⟨rfl, hsc, hpre⟩ trivial
  have hn : n1 = n2 := by
    rcases Nat.lt_trichotomy n1 n2 with h | h | h
    · exact absurd (w2 n1 h) (z_notW e1)
    · exact h
    · exact absurd (w1 n2 h) (z_notW e2)
  subst hn
  obtain ⟨ho2, -⟩ := q2
  subst ho2
  have ho : o1 = .returned (some (.int 0)) := z_same e1 e2
  subst ho
  have z := Cond.after_iff.mp q1.1
  rw [show limb_1_2 = Cond.eq .result (.int 1) from rfl, Cond.eq_ints (x := 0) (y := 1) rfl rfl] at z
  exact absurd z (by decide)
