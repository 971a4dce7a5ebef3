/-! throws of one's own: throw new E("text") -/
/-- a static field that holds a reference or null, in a cell below B -/
def ab_LS (B : Nat) (O f d : String) (s : State) (H : Heap) : Prop := ∃ (c : ClassId) (k : Class) (i : Nat) (fd : Field) (a : Nat) (cell : Cell) (v : Value), s.vm.findClass O = some c ∧ s.fieldFound? O f d = some (c, k, i, fd) ∧ fd.isStatic = true ∧ k.statics = some a ∧ H[a]? = some cell ∧ cell.vm.isStatics = true ∧ cell.cls = c ∧ fd.slot < cell.slots.size ∧ k.staticTypes[fd.slot]? = some fd.type ∧ a < B ∧ cell.slots[fd.slot]? = some v ∧ (v = .null ∨ ∃ x, v = .ref x)
theorem ab_LS.kept {B : Nat} {O f d : String} {s U : State} {H H1 : Heap} (h : ab_LS B O f d s H) (hvm : s.vm.Alike U.vm) (hk : ∀ q, q < H.size → ¬ B ≤ q → H1[q]? = H[q]?) : ab_LS B O f d U H1 := by
  obtain ⟨c, k, i, fd, a, cell, v, h1, h2, h3, h4, h5, h6, h7, h8, h9, h10, h11⟩ := h
  obtain ⟨k', hi', he⟩ := State.fieldFound?_setVm hvm h2
  exact ⟨c, k', i, fd, a, cell, v, by rw [hvm.findClass]; exact h1, hi', h3, by rw [he]; exact h4, (hk a (Array.getElem?_eq_some_iff.mp h5).1 (by omega)).trans h5, h6, h7, h8, by rw [he]; exact h9, h10, h11⟩
theorem ab_LS.lays {B : Nat} {O f d : String} {s : State} (h : ab_LS B O f d s s.heap) (A : Array Value) : (Cond.laysStatic O f d).before A s = true := by
  obtain ⟨c, k, i, fd, a, cell, v, h1, h2, h3, h4, h5, h6, h7, h8, h9, h10, h11, h12⟩ := h
  simp [Cond.before, Cond.holds, Cond.value, h1, h2, h3, h4, h5, h6, h7, h8, h9]
theorem ab_LS.isRef {B : Nat} {O f d : String} {s : State} (h : ab_LS B O f d s s.heap) (A : Array Value) : (Cond.isRef (.static O f d)).before A s = true := by
  obtain ⟨c, k, i, fd, a, cell, v, h1, h2, h3, h4, h5, h6, h7, h8, h9, h10, h11, h12⟩ := h
  have he : (Term.static O f d).eval A s none [] s = some v := by simp [Term.eval, State.fieldNamed?, h2, h3, h4, h5, h6, h11]
  simp only [Cond.before, Cond.holds, Cond.value, he]
  rcases h12 with e | ⟨x, e⟩ <;> simp [e]
theorem ab_LS.of {B : Nat} {O f d : String} {s : State} {A : Array Value} (h1 : (Cond.laysStatic O f d).before A s = true) (h2 : (Cond.isRef (.static O f d)).before A s = true) (hB : s.heap.size ≤ B) : ab_LS B O f d s s.heap := by
  obtain ⟨c, k, i, fd, a, cell, hc, hf, hst, hsta, hcell, hiss, hcls, hlt, hty⟩ := Cond.laysStatic_spec h1
  obtain ⟨v, hv, hr⟩ := Cond.isRef_spec h2
  have he : (Term.static O f d).eval A s none [] s = cell.slots[fd.slot]? := by simp [Term.eval, State.fieldNamed?, hf, hst, hsta, hcell, hiss]
  refine ⟨c, k, i, fd, a, cell, v, hc, hf, hst, hsta, hcell, hiss, hcls, hlt, hty, Nat.lt_of_lt_of_le (Array.getElem?_eq_some_iff.mp hcell).1 hB, he.symm.trans hv, ?_⟩
  cases v <;> first | (exact Or.inl rfl) | (exact Or.inr ⟨_, rfl⟩) | (simp [Value.isRef] at hr; done)
theorem ab_sb {T u : State} {fs : List Frame} {L : List Loc} {k n : Nat} (h : (T.setFrames fs).sameButNew u L k n) : T.sameButNew u L k n := by
  obtain ⟨h1, h2, h3, h4, h5, h6⟩ := h
  refine ⟨?_, h2, h3, h4, h5, h6⟩
  rw [State.setFrames_setFrames] at h1
  exact h1
/-- nothing that was there has changed -/
theorem ab_sb_heap {T u : State} {k n : Nat} (h : T.sameButNew u [] k n) {q : Nat} (hq : q < T.heap.size) : u.heap[q]? = T.heap[q]? := by
  obtain ⟨h1, h2, h3, h4, h5, h6⟩ := h
  obtain ⟨c', g1, g2, g3, g4⟩ := h6 q T.heap[q] (Array.getElem?_eq_getElem hq)
  rw [g1, Array.getElem?_eq_getElem hq]
  congr 1
  rw [g2]
  have e : c'.slots = T.heap[q].slots := by
    apply Array.ext_getElem?
    intro i
    exact g4 i (by simp)
  rw [e]
