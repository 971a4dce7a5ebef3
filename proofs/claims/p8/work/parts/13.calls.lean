/-! calls, throws, returns -/
/-- how an invocation ends: returned, or threw (class number, place) -/
abbrev ab_O : Type := Option Value ⊕ (Nat × Nat)
def ab_o (B : Nat) (od : Nat → Nat) (o : ab_O) : Outcome := match o with
  | .inl v => .returned (v.map (ab_v B od))
  | .inr (_, j) => .threw (B + j)
def ab_Q (below : List Frame) (s : State) (B : Nat) (od : Nat → Nat) (D : va_G) (dA : Nat → ClassId) (cl : List vw_C) (NC NS n0 z0 : Nat) (o : ab_O) (h' : ab_H) (t : State) : Prop :=
  t.status = .running ∧ Ended t below (ab_o B od o) ∧ s.WarmedH t.vm ∧ ∃ (L : List Loc) (k n : Nat), s.sameButNew ({ t with vm := s.vm } : State) L k n ∧ ab_R B od D dA cl NC NS s.heap n0 z0 h' t.heap L k n
theorem ab_steps_weaken {tb : Tables} {e : Env} {g : Frame} {below : List Frame} {a b : State} (h : Steps tb e (g :: below) a b) : Steps tb e below a b := by
  obtain ⟨n, h1, h2⟩ := h
  refine ⟨n, h1, fun k hk => ?_⟩
  obtain ⟨ab, q1, q2, q3⟩ := h2 k hk
  refine ⟨ab ++ [g], by rw [q1]; simp, by simp, fun x hx => ?_⟩
  have := congrArg List.length hx
  cases ab with
  | nil => exact q2 rfl
  | cons y ys => simp at this
section AB3
variable {p : Program} {l : Launch} {e : Env} {R : Room} {s : State} {m : MethodId} {args : Array Value} {below : List Frame} {meth : Method} {c : Code} {T : State} {H : Heap} {locs : List Loc} {cells slots : Nat}
variable {B n0 z0 NC NS : Nat} {od : Nat → Nat} {h h' : ab_H} {D : va_G} {dA : Nat → ClassId} {cl : List vw_C}
/-- where a caller goes on -/
def ab_nx (B : Nat) (od : Nat → Nat) (T' : State) (g : JFrame) (len : Nat) (o : ab_O) : State := match o with
  | .inl v => T'.setTop { g with pc := g.pc + len, stack := (v.map (ab_v B od)).toList ++ g.stack }
  | .inr (_, j) => (T'.setTop g).pushFrame (.throwing (B + j))
/-- the frame of a caller behind a callee -/
theorem ab_R.after {H0 H1 H2 : Heap} {L1 L2 : List Loc} {c1 s1 c2 s2 : Nat} (h1 : ab_R B od D dA cl NC NS H0 n0 z0 h H1 L1 c1 s1) (h2 : ab_R B od D dA cl NC NS H1 h.length (ab_sz h) h' H2 L2 c2 s2) : ab_R B od D dA cl NC NS H0 n0 z0 h' H2 (L1 ++ L2) (c1 + c2) (s1 + s2) := by
  obtain ⟨a1, a2, a3, a4, a5, -⟩ := h1
  obtain ⟨b1, b2, b3, b4, b5, b6⟩ := h2
  refine ⟨b1, b2, ⟨Nat.le_trans a3.1 b3.1, fun q x y => (b3.2.1 q (Nat.lt_of_lt_of_le x a3.1) y).trans (a3.2.1 q x y), fun q hq => ?_⟩, by omega, by omega, b6⟩
  rcases List.mem_append.mp hq with x | x
  · exact a3.2.2 q x
  · exact b3.2.2 q x
/-- a callee's run, taken into the caller's -/
theorem ab_into (X : Stand p l e R s m args below meth c T locs cells slots) (hR : ab_R B od D dA cl NC NS s.heap n0 z0 h T.heap locs cells slots) {g : JFrame} (hg : g.method = m) (hsize : g.locals.size = c.maxLocals) {ig : Instr} {len : Nat} (hdg : decode c.code g.pc = .ok (ig, len))
    {mk : MethodId} {methk : Method} {ck : Code} {a : Array Value} {R' : Room} (hmk : T.vm.method? mk = some methk) (hck : methk.code = some ck) (hlk : methk.locks = false) (hpk : T.plainMethod mk)
    (hframes : R'.frames + 1 ≤ R.frames) (hlocals : 2 * g.monitorRoom + (g.stack.map fun v => v.category).sum + (ck.maxLocals + 11) + R'.locals ≤ R.locals) (hcells : cells + R'.cells ≤ R.cells) (hslots : slots + R'.slots ≤ R.slots) {o : ab_O}
    (ih : W p l e R' (T.calling g mk a) mk a (.java g :: below) methk ck T.heap [] 0 0 (ab_Q (.java g :: below) (T.calling g mk a) B od D dA cl NC NS h.length (ab_sz h) o h') (entryFrame mk a ck.maxLocals)) :
    ∃ (T' : State) (locs' : List Loc) (cells' slots' : Nat), Stand p l e R s m args below meth c T' locs' cells' slots' ∧ ab_R B od D dA cl NC NS s.heap n0 z0 h' T'.heap locs' cells' slots' ∧
      ∀ acts, Steps p.tables e below (doInvoke e (T.setTop g) acts mk a).1 (ab_nx B od T' g len o) := by
  obtain ⟨Y, hin⟩ := X.into hg hsize hdg a (R' := R') hmk hck hlk hpk hframes hlocals hcells hslots
  have hh0 : ((T.setTop g).pushFrame (.java (entryFrame mk a ck.maxLocals))).heap = T.heap := rfl
  obtain ⟨t, st, h1, h2, h3, L, k, n, h4, h5⟩ := ih _ hh0 Y
  have h5' : ab_R B od D dA cl NC NS T.heap h.length (ab_sz h) h' t.heap L k n := h5
  rcases o with v | ⟨ce, j⟩
  · obtain ⟨T', X', hW, -, et⟩ := X.outOf hg hdg h2 h3 h4
    have eh : T'.heap = t.heap := by rw [et]; rfl
    refine ⟨T', _, _, _, X', by rw [eh]; exact hR.after h5', fun acts => ?_⟩
    rw [hin acts]
    show Steps p.tables e below _ (T'.setTop { g with pc := g.pc + len, stack := (v.map (ab_v B od)).toList ++ g.stack })
    rw [← et]
    exact ab_steps_weaken st
  · obtain ⟨T', X', hW, -, et⟩ := X.outOfThrown hg h2 h3 h4
    have eh : T'.heap = t.heap := by rw [et]; rfl
    refine ⟨T', _, _, _, X', by rw [eh]; exact hR.after h5', fun acts => ?_⟩
    rw [hin acts]
    show Steps p.tables e below _ ((T'.setTop g).pushFrame (.throwing (B + j)))
    rw [← et]
    exact ab_steps_weaken st
/-- the invocation begins anew in the middle: what was done before is past -/
theorem ab_rebase (X : Stand p l e R s m args below meth c T locs cells slots) {R' : Room} (h1 : R'.frames ≤ R.frames) (h2 : R'.locals ≤ R.locals) (h3 : cells + R'.cells ≤ R.cells) (h4 : slots + R'.slots ≤ R.slots) :
    Stand p l e R' (T.setFrames (.invoking m args :: below)) m args below meth c T [] 0 0 := by
  obtain ⟨g₀, hfr⟩ := X.frames_eq
  have hcur : T.cur < T.threads.size := State.cur_lt_of_frames hfr
  obtain ⟨th, hth, -⟩ := State.frames_cons hfr
  have hF : (T.setFrames (.invoking m args :: below)).frames = .invoking m args :: below := State.frames_setFrames _ hcur
  have hm : (T.setFrames (.invoking m args :: below)).vm.method? m = some meth := X.method'
  have hroom : (T.setFrames (.invoking m args :: below)).hasRoom e.platform R' = true := by
    obtain ⟨r1, r2, r3, r4⟩ := State.hasRoom_stack X.room
    have r5 := State.hasRoom_real X.room
    have hh := X.room
    simp only [State.hasRoom, Bool.and_eq_true, decide_eq_true_eq] at hh
    rw [State.localsInUse_invoking X.frames X.method X.code] at r3 r4 r5
    rw [X.frames, List.length_cons] at r1 r2
    have hU : (T.setFrames (.invoking m args :: below)).localsInUse = stackWeight below + vmFrameWords + (c.maxLocals + 11) := State.localsInUse_invoking hF hm X.code
    simp only [State.hasRoom, Bool.and_eq_true, decide_eq_true_eq, hF, hU, List.length_cons, State.stackLimits_setFrames, State.stackBytes_setFrames, X.limits, X.bytes]
    refine ⟨⟨⟨⟨by omega, by omega, by omega, by omega, by omega, hh.1.1.1.2.2.2.2.2⟩, ?_⟩, ?_⟩, X.book⟩
    · have := hh.1.1.2
      have := X.heapSize
      show T.heap.size + R'.cells ≤ e.platform.maxCells
      omega
    · have := hh.1.2
      have := X.used
      show T.slotsUsed + R'.slots ≤ e.platform.maxSlots
      omega
  have hcode : ∀ mm : MethodId, (T.setFrames (.invoking m args :: below)).code? mm = s.code? mm := fun mm => by
    rw [State.code?_eq, State.code?_eq]
    show (T.vm.method? mm).bind _ = _
    rw [X.warmed.alike.method?]
  have hmeth : ∀ mm : MethodId, (T.setFrames (.invoking m args :: below)).vm.method? mm = s.vm.method? mm := fun mm => X.warmed.alike.method? mm
  have hhears : (T.setFrames (.invoking m args :: below)).hears m below = true := by
    have hq := X.hears
    cases hb : below with
    | nil => rw [hb] at hq; simp only [State.hears] at hq ⊢; rw [← hb, hmeth]; exact hq
    | cons f r =>
      rw [hb] at hq
      cases f <;> simp only [State.hears] at hq ⊢ <;> first | (rw [← hb, hcode]; exact hq) | (rw [← hb, hmeth]; exact hq) | exact hq
  refine ⟨X.admits, X.cas, X.clock, hF, hroom, hhears, hm, X.code, X.here, X.tail, State.WarmedH.refl _, by rw [State.stackLimits_setFrames], by rw [State.stackBytes_setFrames], ?_⟩
  have h0 := (State.sameButNew.refl (T.setFrames (.invoking m args :: below)) (State.frames_cons hF).choose_spec.1).setFrames T.frames (by exact State.cur_lt_of_frames hF)
  have e0 : ((T.setFrames (.invoking m args :: below)).setFrames T.frames) = T := by
    rw [State.setFrames_setFrames, State.setFrames_self hth]
  rw [e0] at h0
  exact h0
end AB3
