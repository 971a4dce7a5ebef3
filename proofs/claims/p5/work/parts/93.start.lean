/-! WHERE THERE IS A START AT ALL THERE IS ONE WITH THIS SCRIPT: a new row of ints behind the heap, the law called on it above a native method's frame, on a machine with that much more room. -/
def zs_tf : Term → Bool
  | .int _ => true
  | .string _ _ => true
  | .mirror _ => true
  | .static _ _ _ => true
  | .field t _ _ _ => zs_tf t
  | .length t => zs_tf t
  | .elem t i => zs_tf t && zs_tf i
  | _ => false
abbrev zs_T (s : State) (hp : Array Cell) (n : Nat) : State := { s with heap := hp, slotsUsed := n }
section
variable {s : State} {hp : Array Cell} {n : Nat} {A A' : Array Value}
theorem zs_arr (hh : ∀ (a : Addr) (c : Cell), s.heap[a]? = some c → hp[a]? = some c) {a : Addr} {c : Cell} (h : s.arrayAt? a = some c) : (zs_T s hp n).arrayAt? a = some c := by
  simp only [State.arrayAt?, Option.bind_eq_bind, Option.bind_eq_some_iff] at h ⊢
  obtain ⟨c1, h1, k, h2, h3⟩ := h
  exact ⟨c1, hh _ _ h1, k, h2, h3⟩
theorem zs_kt (ty : FieldType) : (zs_T s hp n).knowsType ty = s.knowsType ty := by
  induction ty with
  | array t ih => simpa only [State.knowsType] using ih
  | _ => rfl
theorem zs_t (hh : ∀ (a : Addr) (c : Cell), s.heap[a]? = some c → hp[a]? = some c) : ∀ (t : Term), zs_tf t = true → ∀ v, t.eval A s none [] s = some v → t.eval A' (zs_T s hp n) none [] (zs_T s hp n) = some v := by
  intro t
  induction t with
  | int x => intro _ v h; exact h
  | string c e => intro _ v h; exact h
  | mirror c => intro _ v h; exact h
  | static c nm d =>
    intro _ v h
    simp only [Term.eval, Option.bind_eq_bind, Option.bind_eq_some_iff] at h ⊢
    obtain ⟨q, h1, a, h2, cell, h3, h4⟩ := h
    exact ⟨q, h1, a, h2, cell, hh _ _ h3, h4⟩
  | field t cls nm d ih =>
    intro hk v h
    simp only [Term.eval, Option.bind_eq_bind, Option.bind_eq_some_iff] at h ⊢
    obtain ⟨w, h1, h2⟩ := h
    refine ⟨w, ih hk w h1, ?_⟩
    cases w with
    | ref a =>
      have h3 : s.fieldOf? a cls nm d = some v := h2
      show (zs_T s hp n).fieldOf? a cls nm d = some v
      simp only [State.fieldOf?, Option.bind_eq_bind, Option.bind_eq_some_iff] at h3 ⊢
      obtain ⟨cell, h4, q, h5, h6⟩ := h3
      exact ⟨cell, hh _ _ h4, q, h5, h6⟩
    | _ => exact h2
  | length t ih =>
    intro hk v h
    simp only [Term.eval, Option.bind_eq_bind, Option.bind_eq_some_iff] at h ⊢
    obtain ⟨w, h1, h2⟩ := h
    refine ⟨w, ih hk w h1, ?_⟩
    cases w with
    | ref a =>
      simp only [Option.bind_eq_some_iff] at h2 ⊢
      obtain ⟨cell, h3, h4⟩ := h2
      exact ⟨cell, zs_arr hh h3, h4⟩
    | _ => exact h2
  | elem t i iht ihi =>
    intro hk v h
    have hk' : zs_tf t = true ∧ zs_tf i = true := Bool.and_eq_true_iff.mp hk
    simp only [Term.eval, Option.bind_eq_bind, Option.bind_eq_some_iff] at h ⊢
    obtain ⟨w, h1, h2⟩ := h
    refine ⟨w, iht hk'.1 w h1, ?_⟩
    cases w with
    | ref a =>
      simp only [Option.bind_eq_some_iff] at h2 ⊢
      obtain ⟨u, h3, h4⟩ := h2
      refine ⟨u, ihi hk'.2 u h3, ?_⟩
      cases u with
      | int j =>
        dsimp only at h4 ⊢
        split at h4
        · cases h4
        · rename_i hj
          rw [if_neg hj]
          simp only [Option.bind_eq_some_iff] at h4 ⊢
          obtain ⟨cell, h5, h6⟩ := h4
          exact ⟨cell, zs_arr hh h5, h6⟩
      | _ => exact h4
    | _ => exact h2
  | _ => intro hk; exact absurd (show false = true from hk) Bool.false_ne_true
def zs_cf : Jvm.Cond → Bool
  | .eq a b => zs_tf a && zs_tf b
  | .isRef t => zs_tf t
  | .arrayOf t _ => zs_tf t
  | .exactly t _ => zs_tf t
  | .not (.castable _ _) => true
  | .stringRef _ _ _ => true
  | .laysStatic _ _ _ => true
  | .arrayClass _ => true
  | .arrayOver _ => true
  | c => c.tables
theorem zs_b {c : Jvm.Cond} {B : Array Value} {u : State} : c.before B u = true ↔ c.value B u none u [] = some true := by
  simp [Cond.before, Cond.holds]
theorem zs_c (hh : ∀ (a : Addr) (c : Cell), s.heap[a]? = some c → hp[a]? = some c) : ∀ c : Jvm.Cond, zs_cf c = true → c.before A s = true → c.before A' (zs_T s hp n) = true := by
  intro c hc h
  cases c with
  | eq a b =>
    have hc' : zs_tf a = true ∧ zs_tf b = true := Bool.and_eq_true_iff.mp hc
    rw [zs_b] at h ⊢
    simp only [Cond.value] at h ⊢
    cases ha : a.eval A s none [] s with
    | none => rw [ha] at h; cases h
    | some va =>
      cases hb : b.eval A s none [] s with
      | none => rw [ha, hb] at h; cases va <;> cases h
      | some vb =>
        rw [ha, hb] at h
        rw [zs_t hh a hc'.1 va ha, zs_t hh b hc'.2 vb hb]
        exact h
  | isRef t =>
    rw [zs_b] at h ⊢
    simp only [Cond.value] at h ⊢
    cases ht : t.eval A s none [] s with
    | none => rw [ht] at h; cases h
    | some v => rw [ht] at h; rw [zs_t hh t hc v ht]; exact h
  | arrayOf t ty =>
    rw [zs_b] at h ⊢
    simp only [Cond.value] at h ⊢
    have hk : (zs_T s hp n).knowsType ty = s.knowsType ty := zs_kt ty
    rw [hk]
    split at h
    · cases h
    · rename_i h0
      rw [if_neg h0]
      cases ht : t.eval A s none [] s with
      | none => rw [ht] at h; cases h
      | some v =>
        rw [ht] at h
        rw [zs_t hh t hc v ht]
        cases v with
        | ref a =>
          simp only [Option.bind_eq_bind, Option.bind_eq_some_iff] at h ⊢
          obtain ⟨cell, h1, h2⟩ := h
          exact ⟨cell, hh _ _ h1, h2⟩
        | _ => exact h
  | exactly t cls =>
    rw [zs_b] at h ⊢
    simp only [Cond.value] at h ⊢
    cases ht : t.eval A s none [] s with
    | none => rw [ht] at h; cases h
    | some v =>
      rw [ht] at h
      rw [zs_t hh t hc v ht]
      cases v with
      | ref a =>
        cases hf : s.vm.findClass cls with
        | none => rw [hf] at h; cases h
        | some q =>
          rw [hf] at h
          simp only [hf, Option.bind_eq_bind, Option.bind_eq_some_iff] at h ⊢
          obtain ⟨cell, h1, h2⟩ := h
          exact ⟨cell, hh _ _ h1, h2⟩
      | _ => cases hf : s.vm.findClass cls <;> rw [hf] at h <;> cases h
  | laysStatic ow nm d =>
    obtain ⟨q, k, i, f, a, cell, h1, h2, h3, h4, h5, h6, h7, h8, h9⟩ := Cond.laysStatic_spec h
    have h2' : (zs_T s hp n).fieldFound? ow nm d = some (q, k, i, f) := h2
    have h5' : hp[a]? = some cell := hh _ _ h5
    rw [zs_b]
    simp [Cond.value, h1, h2', h3, h4, h5', h6, h7, h8, h9]
  | not c =>
    cases c with
    | castable a b => exact h
    | _ => exact absurd (show false = true from hc) Bool.false_ne_true
  | stringRef => exact h
  | arrayClass => exact h
  | arrayOver => exact h
  | _ => first | exact absurd (show false = true from hc) Bool.false_ne_true | exact h
theorem zs_flat {B : Array Value} {u : State} (T : Jvm.Cond) : (∀ c ∈ flatC T, c.before B u = true) → T.before B u = true := by
  induction T with
  | and a b iha ihb =>
    intro h
    rw [Cond.before_and, Bool.and_eq_true]
    exact ⟨iha fun c hc => h c (List.mem_append.mpr (Or.inl hc)), ihb fun c hc => h c (List.mem_append.mpr (Or.inr hc))⟩
  | _ => intro h; exact h _ (List.mem_singleton.mpr rfl)
end
theorem zs_nar : (flatC narrow_1).all (fun c => zs_cf c || decide (c = .arrayOf (.arg 0) .int) || decide (c = .le (.length (.arg 0)) (.int 3072))) = true := by decide +kernel
theorem zs_tab : (Jvm.Cond.code x code maxLocals ret :: tables_1).all zs_cf = true := by decide +kernel
theorem zs_in : (flatC narrow_1).contains (.arrayOf (.arg 0) .int) = true := by decide +kernel
