/-! the heap's instructions -/
/-- an entry of a class's pool: kind, two numbers, a value. 0 field (class, field); 1 method (number); 2 class (number in cl); 3 constant; 4 static; 5 Object's constructor; 6 array class (place in aty); 7 String constant -/
abbrev ab_N : Type := Nat × Nat × Nat × Value
/-- what a field of this type may hold -/
def ab_ft (ty : FieldType) (v : Value) : Bool := match ty, v with
  | .int, .int _ => true
  | .long, .long _ => true
  | .boolean, .int x => x == 0 || x == 1
  | .byte, .int x => x.toInt8.toInt32 == x && fits .byte (.int x)
  | .char, .int x => x.toUInt32.toUInt16.toUInt32.toInt32 == x && fits .char (.int x)
  | .object _, .ref _ => true
  | .object _, .float _ => true
  | .object _, .null => true
  | .array _, .ref _ => true
  | .array _, .float _ => true
  | .array _, .null => true
  | _, _ => false
theorem ab_ft_ok {B : Nat} {od : Nat → Nat} {ty : FieldType} {v : Value} (h : ab_ft ty v = true) : narrow ty (ab_v B od v) = ab_v B od v ∧ fits ty (ab_v B od v) = true := by
  cases ty <;> cases v <;> first | (exfalso; revert h; simp [ab_ft]; done) | exact ⟨rfl, rfl⟩ | skip
  case boolean.int x =>
    simp [ab_ft] at h
    rcases h with rfl | rfl
    · show narrow .boolean (.int 0) = .int 0 ∧ fits .boolean (.int 0) = true
      decide
    · show narrow .boolean (.int 1) = .int 1 ∧ fits .boolean (.int 1) = true
      decide
  all_goals
    simp only [ab_ft, Bool.and_eq_true, beq_iff_eq] at h
    refine ⟨?_, h.2⟩
    show Value.int _ = Value.int _
    congr 1
    exact h.1
/-- an index is in range -/
def ab_ix (x : Int32) (n : Nat) : Bool := !(decide (x < 0)) && decide (x.toNatClampNeg < n)
theorem ab_ix_in {x : Int32} {n : Nat} (h : ab_ix x n = true) : ¬ (x < 0 ∨ n ≤ x.toNatClampNeg) := by
  simp [ab_ix] at h
  intro q
  rcases q with q | q
  · exact absurd q (by have := h.1; simpa using this)
  · omega
def ab_ald (aty : List FieldType) (oa : Nat → Option (FieldType × Nat × (Nat → Value))) (ty : FieldType) (pc : Nat) (S : List Value) (h : ab_H) : Option (Nat × List Value × ab_H) := match S with
  | .int x :: .ref j :: r => (match h[j]? with
    | some (.inl (t, n, f)) => if aty[t]? = some ty ∧ ab_ix x n = true then some (pc + 1, f x.toNatClampNeg :: r, h) else none
    | _ => none)
  | .int x :: .float w :: r => (match oa w.toNat with
    | some (t, n, f) => if t = ty ∧ ab_ix x n = true then some (pc + 1, f x.toNatClampNeg :: r, h) else none
    | _ => none)
  | _ => none
def ab_isR (ty : FieldType) : Bool := match ty with
  | .object _ => true
  | _ => false
def ab_s2 (cl : List vw_C) (ct : Nat → Nat → FieldType) (cd : Nat → List Value) (aty : List FieldType) (oa : Nat → Option (FieldType × Nat × (Nat → Value))) (NC NS : Nat) (pl : Nat → Option ab_N) (ini : Bool) (i : Instr) (pc : Nat) (S : List Value) (h : ab_H) : Option (Nat × List Value × ab_H) := match i with
  | .getfield x => (match pl x, S with
    | some (k0, a, b, _), .ref j :: r => (match h[j]? with
      | some (.inr (ci, fs)) => if (k0 = 0 ∨ k0 = 8) ∧ ci = a then (match fs[b]? with | some v => some (pc + 3, v :: r, h) | none => none) else none
      | _ => none)
    | _, _ => none)
  | .putfield x => (match pl x, S with
    | some (k0, a, b, fl), v :: .ref j :: r => (match h[j]? with
      | some (.inr (ci, fs)) => if (k0 = 0 ∨ k0 = 8) ∧ ci = a ∧ b < fs.length ∧ ab_ft (ct ci b) v = true ∧ (((cl[ci]?).map (fun q => (q.2.1 b).2.2.2)) = some false ∨ (k0 = 0 ∧ ini = true ∧ fl = .int 1)) then some (pc + 3, r, h.set j (.inr (ci, fs.set b v))) else none
      | _ => none)
    | _, _ => none)
  | .iaload => ab_ald aty oa .int pc S h
  | .baload => ab_ald aty oa .byte pc S h
  | .caload => ab_ald aty oa .char pc S h
  | .laload => ab_ald aty oa .long pc S h
  | .aaload => (match S with
    | .int x :: .ref j :: r => (match h[j]? with
      | some (.inl (t, n, f)) => if (aty[t]?).map ab_isR = some true ∧ ab_ix x n = true then some (pc + 1, f x.toNatClampNeg :: r, h) else none
      | _ => none)
    | _ => none)
  | .arraylength => (match S with
    | .ref j :: r => (match h[j]? with
      | some (.inl (t, n, f)) => if t < aty.length then some (pc + 1, .int (Int32.ofNat n) :: r, h) else none
      | _ => none)
    | .float w :: r => (match oa w.toNat with
      | some (_, n, _) => some (pc + 1, .int (Int32.ofNat n) :: r, h)
      | _ => none)
    | _ => none)
  | .iastore => (match S with
    | .int y :: .int x :: .ref j :: r => (match h[j]? with
      | some (.inl (t, n, f)) => if aty[t]? = some .int ∧ ab_ix x n = true then some (pc + 1, r, h.set j (.inl (t, n, updV f x.toNatClampNeg (.int y)))) else none
      | _ => none)
    | _ => none)
  | .bastore => (match S with
    | .int y :: .int x :: .ref j :: r => (match h[j]? with
      | some (.inl (t, n, f)) => if aty[t]? = some .byte ∧ ab_ix x n = true then some (pc + 1, r, h.set j (.inl (t, n, updV f x.toNatClampNeg (.int y.toInt8.toInt32)))) else none
      | _ => none)
    | _ => none)
  | .lastore => (match S with
    | .long y :: .int x :: .ref j :: r => (match h[j]? with
      | some (.inl (t, n, f)) => if aty[t]? = some .long ∧ ab_ix x n = true then some (pc + 1, r, h.set j (.inl (t, n, updV f x.toNatClampNeg (.long y)))) else none
      | _ => none)
    | _ => none)
  | .newarray at_ => (match S with
    | .int x :: r => (match aty.findIdx? (fun q => q == newarray.typeOf at_) with
      | some t => if ¬ x < 0 ∧ x.toNatClampNeg ≤ 65536 ∧ h.length + 1 ≤ NC ∧ ab_sz h + x.toNatClampNeg ≤ NS ∧ at_ ≠ .float then some (pc + 2, .ref h.length :: r, h ++ [.inl (t, x.toNatClampNeg, fun _ => defaultValue (newarray.typeOf at_))]) else none
      | none => none)
    | _ => none)
  | .new x => (match pl x with
    | some (2, ci, _, _) => (match cl[ci]? with
      | some q => if h.length + 1 ≤ NC ∧ ab_sz h + q.2.2 ≤ NS then some (pc + 3, .ref h.length :: S, h ++ [.inr (ci, cd ci)]) else none
      | none => none)
    | _ => none)
  | .ldc x => (match pl x with
    | some (3, _, _, .int v) => some (pc + 2, .int v :: S, h)
    | some (7, _, _, .float w) => some (pc + 2, .float w :: S, h)
    | _ => none)
  | .ldc2_w x => (match pl x with
    | some (3, _, _, .long v) => some (pc + 3, .long v :: S, h)
    | _ => none)
  | _ => none
/-- what the words Ts say of an entry -/
def ab_pe (cl : List vw_C) (Ts : List Cond) (own : String) (x : Nat) (n : ab_N) : Prop := match n with
  | (0, a, b, fl) => ∃ (r : vw_C) (ref : String), cl[a]? = some r ∧ b < r.2.2 ∧ Cond.fieldLink own x ref (r.2.1 b).2.1 (r.2.1 b).2.2.1 ∈ Ts ∧ (ref = (r.2.1 b).1 ∨ Cond.sameField ref (r.2.1 b).1 (r.2.1 b).2.1 (r.2.1 b).2.2.1 ∈ Ts) ∧ (fl = .int 1 → (r.2.1 b).2.2.2 = true ∧ (r.2.1 b).1 = own)
  | (8, a, b, _) => ∃ (r : vw_C) (ref host : String), cl[a]? = some r ∧ b < r.2.2 ∧ Cond.fieldLinkNest own x ref (r.2.1 b).2.1 (r.2.1 b).2.2.1 host ∈ Ts ∧ (ref = (r.2.1 b).1 ∨ Cond.sameField ref (r.2.1 b).1 (r.2.1 b).2.1 (r.2.1 b).2.2.1 ∈ Ts)
  | (2, ci, _, _) => ∃ r : vw_C, cl[ci]? = some r ∧ Cond.classLink own x r.1 ∈ Ts ∧ Cond.instantiable r.1 r.2.2 ∈ Ts ∧ Cond.initialized r.1 ∈ Ts
  | (3, _, _, .int v) => Cond.constant own x v ∈ Ts
  | (3, _, _, .long v) => Cond.constantLong own x v ∈ Ts
  | _ => True
theorem ab_same {Ts : List Cond} {s : State} (hTs : ∀ w ∈ Ts, va_Nw w s) {ref O n d : String} (h : ref = O ∨ Cond.sameField ref O n d ∈ Ts) : ∀ z, s.fieldFound? O n d = some z → s.fieldFound? ref n d = some z := by
  intro z hz
  rcases h with rfl | h
  · exact hz
  · exact u_same (args := #[]) (va_Nw.use rfl (hTs _ h)) z hz
/-- the classes: what is fixed, and what the tables say -/
def ab_CS (cl : List vw_C) (ct : Nat → Nat → FieldType) (cd : Nat → List Value) : Prop := ∀ (ci : Nat) (r : vw_C), cl[ci]? = some r →
  (∀ k, k < r.2.2 → parseFieldDescriptor (r.2.1 k).2.2.1 = some (ct ci k)) ∧ (∀ a, a < r.2.2 → ∀ b, b < r.2.2 → a ≠ b → (r.2.1 a).2.1 ≠ (r.2.1 b).2.1) ∧ (∀ j, j < r.2.2 → defaultValue (ct ci j) = vp_V (cd ci) j) ∧ (cd ci).length = r.2.2 ∧ (∀ v ∈ cd ci, ∀ (B : Nat) (od : Nat → Nat), ab_v B od v = v)
def ab_KC (D : va_G) (cl : List vw_C) (s : State) : Prop := ∀ (ci : Nat) (r : vw_C), cl[ci]? = some r → u_Kn s r.1 r.2.1 r.2.2 (D.1 ci) (D.2 ci) ∧ ∀ (A : Array Value), ∀ w ∈ u_ws r.1 r.2.1 r.2.2, w.before A s = true
def ab_KA (dA : Nat → ClassId) (aty : List FieldType) (s : State) : Prop := ∀ (t : Nat) (ty : FieldType), aty[t]? = some ty → ArrOfT s (dA t) ty ∧ va_RA s (dA t) ty ∧ ((∃ x, newarray.typeOf x = ty) → (Cond.arrayClass ty).before #[] s = true)
def ab_OA (B : Nat) (od : Nat → Nat) (oa : Nat → Option (FieldType × Nat × (Nat → Value))) (s : State) (H : Heap) : Prop := ∀ (w : Nat) (t : FieldType) (n : Nat) (f : Nat → Value), oa w = some (t, n, f) → od w < B ∧ ∃ cell : Cell, H[od w]? = some cell ∧ s.isArrayOf cell t ∧ cell.vm ≠ .unknown ∧ (n ≤ cell.slots.size ∧ cell.slots.size.toInt32 = Int32.ofNat n) ∧ ∀ j, j < n → cell.slots[j]? = some (ab_v B od (f j))
section AB2
variable {p : Program} {l : Launch} {e : Env} {R : Room} {s : State} {m : MethodId} {args : Array Value} {below : List Frame} {meth : Method} {c : Code} {H : Heap} {locs : List Loc} {cells slots : Nat} {Q : State → Prop}
variable {cc : ByteArray} {pc pc' nL len B n0 z0 NC NS : Nat} {od : Nat → Nat} {S S' : List Value} {h h' : ab_H} {i : Instr} {ls : Array Slot} {own : String}
variable {D : va_G} {dA : Nat → ClassId} {cl : List vw_C} {ct : Nat → Nat → FieldType} {cd : Nat → List Value} {aty : List FieldType} {oa : Nat → Option (FieldType × Nat × (Nat → Value))} {pl : Nat → Option ab_N} {ini : Bool} {Ts : List Cond}
/-- an object's field is read -/
theorem ab_getf (hx : p.tables.exec = Jvm.exec) (hb : c.code = cc) (hown : s.vm.findClass own = some m.cls) (hTs : ∀ w ∈ Ts, va_Nw w s) (hKC : ab_KC D cl s) (hR : ab_R B od D dA cl NC NS s.heap n0 z0 h H locs cells slots)
    {x k0 a b j : Nat} {fl v : Value} {fs r : List Value} (hk0 : k0 = 0 ∨ k0 = 8) (hp : ab_pe cl Ts own x (k0, a, b, fl)) (hj : h[j]? = some (.inr (a, fs))) (hv : fs[b]? = some v) (hdg : decode cc pc = .ok (.getfield x, 3))
    (k : W p l e R s m args below meth c H locs cells slots Q (F0 m (pc + 3) ls (ab_v B od v :: r))) : W p l e R s m args below meth c H locs cells slots Q (F0 m pc ls (.ref (B + j) :: r)) := by
  obtain ⟨r1, hc1, cell, q1, q2, q3, q4⟩ := hR.1 j _ hj
  obtain ⟨hKn, hws⟩ := hKC a r1 hc1
  obtain ⟨hS, hfc, kC, hkC, hkind⟩ := hKn
  have hsl : ∀ (bb : Nat), bb < r1.2.2 → bb = b → ∃ (cf : Nat) (kf : Class) (fi : Nat) (f : Field), s.fieldFound? (r1.2.1 bb).1 (r1.2.1 bb).2.1 (r1.2.1 bb).2.2.1 = some (cf, kf, fi, f) ∧ f.isStatic = false ∧ cell.slots[f.slot]? = some (ab_v B od v) := by
    intro bb hbb e1
    subst e1
    obtain ⟨cf, kf, fi, f, hi, hsl⟩ := hS bb hbb
    refine ⟨cf, kf, fi, f, hi, (u_facts hfc hkC (u_lays (hws args) (fun w hw => hw) hbb) hi).1, ?_⟩
    rw [hsl, q4 bb hbb]
    simp [vp_V, hv]
  rcases hk0 with rfl | rfl
  · obtain ⟨r2, ref, hc2, hb2, hl2, hs2, -⟩ := hp
    cases hc1.symm.trans hc2
    obtain ⟨cf, kf, fi, f, hi, hst, hval⟩ := hsl b hb2 rfl
    exact W.getf hx hb hown (va_Nw.use rfl (hTs _ hl2)) (ab_same hTs hs2 _ hi) hst q1 (by rw [q3]; exact fun h => by cases h) hval rfl rfl hdg k
  · obtain ⟨r2, ref, host, hc2, hb2, hl2, hs2⟩ := hp
    cases hc1.symm.trans hc2
    obtain ⟨cf, kf, fi, f, hi, hst, hval⟩ := hsl b hb2 rfl
    exact va_Wgetf hx hb hown (va_Nw.use rfl (hTs _ hl2)) (ab_same hTs hs2 _ hi) hst q1 (by rw [q3]; exact fun h => by cases h) hval rfl rfl hdg k
theorem ab_putf (hx : p.tables.exec = Jvm.exec) (hb : c.code = cc) (hown : s.vm.findClass own = some m.cls) (hTs : ∀ w ∈ Ts, va_Nw w s) (hKC : ab_KC D cl s) (hCS : ab_CS cl ct cd) (hR : ab_R B od D dA cl NC NS s.heap n0 z0 h H locs cells slots) (hini : ini = true → meth.name = "<init>")
    {x k0 a b j : Nat} {fl v : Value} {fs r : List Value} (hk0 : k0 = 0 ∨ k0 = 8) (hp : ab_pe cl Ts own x (k0, a, b, fl)) (hj : h[j]? = some (.inr (a, fs))) (hbl : b < fs.length) (hft : ab_ft (ct a b) v = true)
    (hfin : ((cl[a]?).map (fun q => (q.2.1 b).2.2.2)) = some false ∨ (k0 = 0 ∧ ini = true ∧ fl = .int 1)) (hdg : decode cc pc = .ok (.putfield x, 3))
    (k : ∀ (H1 : Heap) (locs1 : List Loc), ab_R B od D dA cl NC NS s.heap n0 z0 (h.set j (.inr (a, fs.set b v))) H1 locs1 cells slots → W p l e R s m args below meth c H1 locs1 cells slots Q (F0 m (pc + 3) ls r)) : W p l e R s m args below meth c H locs cells slots Q (F0 m pc ls (ab_v B od v :: .ref (B + j) :: r)) := by
  obtain ⟨r1, hc1, cell, q1, q2, q3, q4⟩ := hR.1 j _ hj
  obtain ⟨hKn, hws⟩ := hKC a r1 hc1
  obtain ⟨c1, c2, c3, c4, -⟩ := hCS a r1 hc1
  have hKn2 := hKn
  obtain ⟨hS, hfc, kC, hkC, hkind⟩ := hKn
  obtain ⟨hn, hfit⟩ := ab_ft_ok (B := B) (od := od) hft
  have hap : ∀ x y, x < r1.2.2 → y < r1.2.2 → x ≠ y → (D.2 a) x ≠ (D.2 a) y := by
    intro x y hx hy hne
    obtain ⟨_, _, _, fa, hia, ea⟩ := hS x hx
    obtain ⟨_, _, _, fb, hib, eb⟩ := hS y hy
    rw [← ea, ← eb]
    refine u_apart (u_lays (hws args) (fun w hw => hw) hx) (u_lays (hws args) (fun w hw => hw) hy) hia hib ?_
    rw [(State.fieldFound?_type hia (c1 x hx)).1, (State.fieldFound?_type hib (c1 y hy)).1]
    exact c2 x hx y hy hne
  have fin : ∀ (hb2 : b < r1.2.2) (H1 : Heap), H1[B + j]? = some (cell.setSlot (D.2 a b) (ab_v B od v)) → H1.size = H.size → (∀ q, q ≠ B + j → H1[q]? = H[q]?) → ab_R B od D dA cl NC NS s.heap n0 z0 (h.set j (.inr (a, fs.set b v))) H1 (locs ++ [⟨B + j, D.2 a b⟩]) cells slots := by
    intro hb2 H1 e1 e2 e3
    refine hR.set hj (by simp [ab_sz1]) ⟨r1, hc1, ?_⟩ e2 e3
    refine t_OB.to (V := updV (vp_V (fs.map (ab_v B od))) b (ab_v B od v)) ⟨_, e1, q2, q3, t_set q4 hap hb2 _⟩ (fun jj _ => ?_)
    rw [vp_updV_set (by simpa using hbl), List.map_set]
  rcases hk0 with rfl | rfl
  · obtain ⟨r2, ref, hc2, hb2, hl2, hs2, hf2⟩ := hp
    cases hc1.symm.trans hc2
    obtain ⟨cf, kf, fi, f, hi, hsl⟩ := hS b hb2
    have hst := (u_facts hfc hkC (u_lays (hws args) (fun w hw => hw) hb2) hi).1
    have hlay := hws args _ (u_in_lay hb2)
    unfold u_lay at hlay
    rcases hfin with hfin | ⟨-, hi1, hf1⟩
    · have hff : (r1.2.1 b).2.2.2 = false := by rw [hc1] at hfin; simpa using hfin
      rw [if_neg (by rw [hff]; decide)] at hlay
      have h6 := u_store hfc hkC hkind hlay hi (c1 b hb2) hn hfit
      refine W.putK hx hb (f := f) ⟨hown, va_Nw.use rfl (hTs _ hl2), ⟨_, _, _, ab_same hTs hs2 _ hi⟩, hst⟩ (by rw [q2]; exact h6) q1 q3 (by rw [hsl]; exact k2_hasslot (q4 b hb2)) rfl rfl hdg fun H' e1 e2 e3 => ?_
      rw [hsl] at e1 ⊢
      exact k H' _ (fin hb2 H' e1 e2 e3)
    · obtain ⟨g1, g2⟩ := hf2 hf1
      rw [if_pos g1] at hlay
      have hcf : m.cls = cf := by
        obtain ⟨_, _, c', _, _, _, -, -, hf', -, -, -, hown2, -⟩ := Cond.laysFinal_spec hlay
        have e1 : c' = cf := by have := hi.symm.trans hf'; simp at this; exact this.1.symm
        rw [g2] at hown2
        rw [← e1]; exact Option.some.inj (hown.symm.trans hown2)
      have h6 := u_fits hfc hkC hkind (Or.inr hlay) hi (c1 b hb2) hn hfit
      refine W.putFinK hx hb hown (va_Nw.use rfl (hTs _ hl2)) (ab_same hTs hs2 _ hi) hst hcf (hini hi1) (by rw [q2]; exact h6) q1 q3 (by rw [hsl]; exact k2_hasslot (q4 b hb2)) rfl rfl hdg fun H' e1 e2 e3 => ?_
      rw [hsl] at e1 ⊢
      exact k H' _ (fin hb2 H' e1 e2 e3)
  · obtain ⟨r2, ref, host, hc2, hb2, hl2, hs2⟩ := hp
    cases hc1.symm.trans hc2
    obtain ⟨cf, kf, fi, f, hi, hsl⟩ := hS b hb2
    have hst := (u_facts hfc hkC (u_lays (hws args) (fun w hw => hw) hb2) hi).1
    have hlay := hws args _ (u_in_lay hb2)
    unfold u_lay at hlay
    have hfin : ((cl[a]?).map (fun q => (q.2.1 b).2.2.2)) = some false := by
      rcases hfin with h1 | ⟨h1, -⟩
      · exact h1
      · cases h1
    have hff : (r1.2.1 b).2.2.2 = false := by rw [hc1] at hfin; simpa using hfin
    rw [if_neg (by rw [hff]; decide)] at hlay
    have h6 := u_store hfc hkC hkind hlay hi (c1 b hb2) hn hfit
    refine va_WputK hx hb (f := f) hown (va_Nw.use rfl (hTs _ hl2)) (ab_same hTs hs2 _ hi) hst (by rw [q2]; exact h6) q1 q3 (by rw [hsl]; exact k2_hasslot (q4 b hb2)) rfl rfl hdg fun H' e1 e2 e3 => ?_
    rw [hsl] at e1 ⊢
    exact k H' _ (fin hb2 H' e1 e2 e3)
/-- an array of this activation's is read -/
theorem ab_arr (hKA : ab_KA dA aty s) (hR : ab_R B od D dA cl NC NS s.heap n0 z0 h H locs cells slots) {j t n : Nat} {f : Nat → Value} {ty : FieldType} (hj : h[j]? = some (.inl (t, n, f))) (ht : aty[t]? = some ty) :
    ∃ cell : Cell, H[B + j]? = some cell ∧ s.isArrayOf cell ty ∧ cell.vm ≠ .unknown ∧ (n ≤ cell.slots.size ∧ cell.slots.size.toInt32 = Int32.ofNat n) ∧ ∀ q, q < n → cell.slots[q]? = some (ab_v B od (f q)) := by
  have h1 : H[B + j]? = some (arrV (dA t) n (fun q => ab_v B od (f q))) := hR.1 j _ hj
  exact ⟨_, h1, (hKA t ty ht).1 n _, (fun q => by cases q), ⟨by rw [arrV_size]; exact Nat.le_refl _, by rw [arrV_size]⟩, fun q hq => arrV_read _ _ hq⟩
theorem ab_old (hOA : ab_OA B od oa s s.heap) (hR : ab_R B od D dA cl NC NS s.heap n0 z0 h H locs cells slots) {w n : Nat} {f : Nat → Value} {ty : FieldType} (hw : oa w = some (ty, n, f)) :
    ∃ cell : Cell, H[od w]? = some cell ∧ s.isArrayOf cell ty ∧ cell.vm ≠ .unknown ∧ (n ≤ cell.slots.size ∧ cell.slots.size.toInt32 = Int32.ofNat n) ∧ ∀ q, q < n → cell.slots[q]? = some (ab_v B od (f q)) := by
  obtain ⟨g1, cell, g2, g3⟩ := hOA w ty n f hw
  have g4 := (Array.getElem?_eq_some_iff.mp g2).1
  exact ⟨cell, (hR.2.2.1.2.1 (od w) g4 (by omega)).trans g2, g3⟩
theorem ab_ald_ok (hKA : ab_KA dA aty s) (hOA : ab_OA B od oa s s.heap) (hR : ab_R B od D dA cl NC NS s.heap n0 z0 h H locs cells slots) {ty : FieldType}
    (row : ∀ {a : Addr} {cell : Cell} {j : Int32} {v : Value} {r : List Value}, H[a]? = some cell → s.isArrayOf cell ty → cell.vm ≠ .unknown → ¬ (j < 0 ∨ cell.slots.size ≤ j.toNatClampNeg) → cell.slots[j.toNatClampNeg]? = some v →
      W p l e R s m args below meth c H locs cells slots Q (F0 m (pc + 1) ls (v :: r)) → W p l e R s m args below meth c H locs cells slots Q (F0 m pc ls (.int j :: .ref a :: r)))
    (hs : ab_ald aty oa ty pc S h = some (pc', S', h')) (k : h' = h → W p l e R s m args below meth c H locs cells slots Q (F0 m pc' ls (S'.map (ab_v B od)))) : W p l e R s m args below meth c H locs cells slots Q (F0 m pc ls (S.map (ab_v B od))) := by
  unfold ab_ald at hs
  split at hs
  · rename_i x j r
    split at hs
    · rename_i t n f hj
      split at hs
      · rename_i hc
        cases hs
        obtain ⟨cell, g1, g2, g3, g4, g5⟩ := ab_arr hKA hR hj hc.1
        have hin := ab_ix_in hc.2
        exact row g1 g2 g3 (fun q => by rcases q with q | q; exact hin (Or.inl q); exact hin (Or.inr (Nat.le_trans g4.1 q))) (g5 _ (by omega)) (k rfl)
      · cases hs
    · cases hs
  · rename_i x w r
    split at hs
    · rename_i t n f hw
      split at hs
      · rename_i hc
        obtain ⟨rfl, hc2⟩ := hc
        cases hs
        obtain ⟨cell, g1, g2, g3, g4, g5⟩ := ab_old hOA hR hw
        have hin := ab_ix_in hc2
        exact row g1 g2 g3 (fun q => by rcases q with q | q; exact hin (Or.inl q); exact hin (Or.inr (Nat.le_trans g4.1 q))) (g5 _ (by omega)) (k rfl)
      · cases hs
    · cases hs
  · cases hs
/-- an element is written -/
theorem ab_ast (hR : ab_R B od D dA cl NC NS s.heap n0 z0 h H locs cells slots) {j t n : Nat} {f : Nat → Value} {v : Value} {ix : Nat} {H1 : Heap} (hj : h[j]? = some (.inl (t, n, f)))
    (e1 : H1[B + j]? = some ((arrV (dA t) n (fun q => ab_v B od (f q))).setSlot ix (ab_v B od v))) (e2 : H1.size = H.size) (e3 : ∀ q, q ≠ B + j → H1[q]? = H[q]?) :
    ab_R B od D dA cl NC NS s.heap n0 z0 (h.set j (.inl (t, n, updV f ix v))) H1 (locs ++ [⟨B + j, ix⟩]) cells slots := by
  refine hR.set hj rfl ?_ e2 e3
  show H1[B + j]? = some (arrV (dA t) n (fun q => ab_v B od (updV f ix v q)))
  rw [e1, arrV_store]
  congr 2
  funext q
  by_cases hq : q = ix
  · subst hq; simp [updV]
  · simp [updV, hq]
theorem ab_find {α : Type} {P : α → Bool} {xs : List α} {t : Nat} (h : xs.findIdx? P = some t) : ∃ y, xs[t]? = some y ∧ P y = true := by
  obtain ⟨h1, h2, -⟩ := List.findIdx?_eq_some_iff_getElem.mp h
  exact ⟨xs[t], List.getElem?_eq_getElem h1, h2⟩
set_option maxHeartbeats 8000000 in
theorem ab_s2_ok (hx : p.tables.exec = Jvm.exec) (hb : c.code = cc) (hown : s.vm.findClass own = some m.cls) (hTs : ∀ w ∈ Ts, va_Nw w s) (hKC : ab_KC D cl s) (hCS : ab_CS cl ct cd) (hKA : ab_KA dA aty s) (hOA : ab_OA B od oa s s.heap) (hPL : ∀ x n, pl x = some n → ab_pe cl Ts own x n) (hST : ∀ x a b w, pl x = some (7, a, b, .float w) → ∃ tx : String, vk_R own x tx (od w.toNat) s) (hini : ini = true → meth.name = "<init>")
    (hNC : NC ≤ n0 + R.cells) (hNS : NS ≤ z0 + R.slots) (hdg : decode cc pc = .ok (i, len)) (hlen : ab_len i = 0 ∨ len = ab_len i) (hs : ab_s2 cl ct cd aty oa NC NS pl ini i pc S h = some (pc', S', h')) (hR : ab_R B od D dA cl NC NS s.heap n0 z0 h H locs cells slots)
    (k : ∀ (H' : Heap) (locs' : List Loc) (cells' slots' : Nat), ab_R B od D dA cl NC NS s.heap n0 z0 h' H' locs' cells' slots' → W p l e R s m args below meth c H' locs' cells' slots' Q (F0 m pc' ls (S'.map (ab_v B od)))) :
    W p l e R s m args below meth c H locs cells slots Q (F0 m pc ls (S.map (ab_v B od))) := by
  rcases hlen with hlen | hlen
  · cases i
    all_goals first | (simp only [ab_s2] at hs; cases hs; done) | (revert hlen; simp [ab_len]; done)
  subst hlen
  cases i
  case getfield x =>
    simp only [ab_s2] at hs
    split at hs
    · rename_i k0 a b fl j r hp
      split at hs
      · rename_i ci fs hj
        split at hs
        · rename_i hc
          obtain ⟨hk0, rfl⟩ := hc
          split at hs
          · rename_i v hv
            cases hs
            exact ab_getf hx hb hown hTs hKC hR hk0 (hPL _ _ hp) hj hv hdg (k _ _ _ _ hR)
          · cases hs
        · cases hs
      · cases hs
    · cases hs
  case putfield x =>
    simp only [ab_s2] at hs
    split at hs
    · rename_i k0 a b fl v j r hp
      split at hs
      · rename_i ci fs hj
        split at hs
        · rename_i hc
          obtain ⟨hk0, rfl, hbl, hft, hfin⟩ := hc
          cases hs
          exact ab_putf hx hb hown hTs hKC hCS hR hini hk0 (hPL _ _ hp) hj hbl hft hfin hdg (fun H1 locs1 hR1 => k _ _ _ _ hR1)
        · cases hs
      · cases hs
    · cases hs
  case iaload =>
    simp only [ab_s2] at hs
    exact ab_ald_ok hKA hOA hR (fun g1 g2 g3 g4 g5 kk => W.iald hx hb g1 g2 g3 g4 g5 rfl rfl hdg kk) hs (fun he => by subst he; exact k _ _ _ _ hR)
  case baload =>
    simp only [ab_s2] at hs
    exact ab_ald_ok hKA hOA hR (fun g1 g2 g3 g4 g5 kk => W.bald hx hb g1 g2 g3 g4 g5 rfl rfl hdg kk) hs (fun he => by subst he; exact k _ _ _ _ hR)
  case caload =>
    simp only [ab_s2] at hs
    exact ab_ald_ok hKA hOA hR (fun g1 g2 g3 g4 g5 kk => W.cald hx hb g1 g2 g3 g4 g5 rfl rfl hdg kk) hs (fun he => by subst he; exact k _ _ _ _ hR)
  case laload =>
    simp only [ab_s2] at hs
    exact ab_ald_ok hKA hOA hR (fun g1 g2 g3 g4 g5 kk => W.lald hx hb g1 g2 g3 g4 g5 rfl rfl hdg kk) hs (fun he => by subst he; exact k _ _ _ _ hR)
  case aaload =>
    simp only [ab_s2] at hs
    split at hs
    · rename_i x j r
      split at hs
      · rename_i t n f hj
        split at hs
        · rename_i hc
          cases hs
          obtain ⟨ty, ht, hty⟩ : ∃ ty, aty[t]? = some ty ∧ ty.isReference = true := by
            cases ha : aty[t]? with
            | none => rw [ha] at hc; simp at hc
            | some ty =>
              refine ⟨ty, rfl, ?_⟩
              rw [ha] at hc
              cases ty <;> first | rfl | (simp [ab_isR] at hc)
          obtain ⟨cell, g1, g2, g3, g4, g5⟩ := ab_arr hKA hR hj ht
          have hin := ab_ix_in hc.2
          exact W.aald hx hb g1 g2 hty g3 (fun q => by rcases q with q | q; exact hin (Or.inl q); exact hin (Or.inr (Nat.le_trans g4.1 q))) (g5 _ (by omega)) rfl rfl hdg (k _ _ _ _ hR)
        · cases hs
      · cases hs
    · cases hs
  case arraylength =>
    simp only [ab_s2] at hs
    split at hs
    · rename_i j r
      split at hs
      · rename_i t n f hj
        split at hs
        · rename_i hc
          cases hs
          obtain ⟨cell, g1, g2, g3, g4, g5⟩ := ab_arr hKA hR hj (List.getElem?_eq_getElem hc)
          exact W.alen hx hb g1 g2 g4.2 rfl rfl hdg (k _ _ _ _ hR)
        · cases hs
      · cases hs
    · rename_i w r
      split at hs
      · rename_i t n f hw
        cases hs
        obtain ⟨cell, g1, g2, g3, g4, g5⟩ := ab_old hOA hR hw
        exact W.alen hx hb g1 g2 g4.2 rfl rfl hdg (k _ _ _ _ hR)
      · cases hs
    · cases hs
  case iastore =>
    simp only [ab_s2] at hs
    split at hs
    · rename_i y x j r
      split at hs
      · rename_i t n f hj
        split at hs
        · rename_i hc
          cases hs
          have hin := ab_ix_in hc.2
          exact W.iast hx hb (hR.1 j _ hj) ((hKA t _ hc.1).1 n _) (fun q => by cases q) (by rw [arrV_size]; exact hin) rfl rfl hdg (fun H1 e1 e2 e3 => k _ _ _ _ (ab_ast hR hj e1 e2 e3))
        · cases hs
      · cases hs
    · cases hs
  case bastore =>
    simp only [ab_s2] at hs
    split at hs
    · rename_i y x j r
      split at hs
      · rename_i t n f hj
        split at hs
        · rename_i hc
          cases hs
          have hin := ab_ix_in hc.2
          exact W.bast hx hb (hR.1 j _ hj) ((hKA t _ hc.1).1 n _) (fun q => by cases q) (by rw [arrV_size]; exact hin) rfl rfl hdg (fun H1 e1 e2 e3 => k _ _ _ _ (ab_ast hR hj e1 e2 e3))
        · cases hs
      · cases hs
    · cases hs
  case lastore =>
    simp only [ab_s2] at hs
    split at hs
    · rename_i y x j r
      split at hs
      · rename_i t n f hj
        split at hs
        · rename_i hc
          cases hs
          have hin := ab_ix_in hc.2
          exact W.last hx hb (hR.1 j _ hj) ((hKA t _ hc.1).1 n _) (fun q => by cases q) (by rw [arrV_size]; exact hin) rfl rfl hdg (fun H1 e1 e2 e3 => k _ _ _ _ (ab_ast hR hj e1 e2 e3))
        · cases hs
      · cases hs
    · cases hs
  case newarray at_ =>
    simp only [ab_s2] at hs
    split at hs
    · rename_i x r
      split at hs
      · rename_i t ht
        split at hs
        · rename_i hc
          obtain ⟨hn, hbig, hc1, hc2, hfl⟩ := hc
          cases hs
          obtain ⟨y, hy, hy2⟩ := ab_find ht
          have hy3 : y = newarray.typeOf at_ := by simpa using hy2
          subst hy3
          obtain ⟨hA1, hA2, hA3⟩ := hKA t _ hy
          have hb4 : x.toNatClampNeg * componentBytes (newarray.typeOf at_) ≤ 536870912 := by
            have : componentBytes (newarray.typeOf at_) ≤ 8 := by cases at_ <;> decide
            calc _ ≤ x.toNatClampNeg * 8 := Nat.mul_le_mul_left _ this
              _ ≤ 536870912 := by omega
          have q4 := hR.2.2.2.1
          have q5 := hR.2.2.2.2.1
          refine va_newaK hx hb (by have := hA3 ⟨at_, rfl⟩; exact this) rfl hdg rfl hn rfl hb4 (by omega) (by omega) rfl fun H1 cA e1 z1 o1 hAr hNm => ?_
          have hcA : cA = dA t := by
            have q := hA2
            cases at_ <;> exact Option.some.inj (hNm.symm.trans q)
          subst hcA
          have hdv : ab_v B od (defaultValue (newarray.typeOf at_)) = defaultValue (newarray.typeOf at_) := by cases at_ <;> first | rfl | exact absurd rfl hfl
          have hR2 := hR.push (x := .inl (t, x.toNatClampNeg, fun _ => defaultValue (newarray.typeOf at_))) (n := x.toNatClampNeg) (H1 := H1) rfl hc1 hc2 (by show H1[B + h.length]? = some (arrV (dA t) x.toNatClampNeg (fun _ => ab_v B od (defaultValue (newarray.typeOf at_)))); rw [hdv, ← hR.2.1]; exact e1) z1 o1
          have kk := k _ _ _ _ hR2
          rw [hR.2.1]
          exact kk
        · cases hs
      · cases hs
    · cases hs
  case new x =>
    simp only [ab_s2] at hs
    split at hs
    · rename_i ci _ _ hp
      split at hs
      · rename_i q hq
        split at hs
        · rename_i hc
          obtain ⟨hc1, hc2⟩ := hc
          cases hs
          obtain ⟨r, hr, l1, l2, l3⟩ := hPL _ _ hp
          cases hq.symm.trans hr
          obtain ⟨hKn, hws⟩ := hKC ci _ hq
          obtain ⟨c1, c2, c3, c4, c5⟩ := hCS ci _ hq
          have q4 := hR.2.2.2.1
          have q5 := hR.2.2.2.2.1
          refine W.newcK hx hb hown (va_Nw.use rfl (hTs _ l1)) (va_Nw.use rfl (hTs _ l2)) (va_Nw.use rfl (hTs _ l3)) rfl hdg (by omega) (by omega) hKn.2.1 rfl fun H1 kC hkC e1 z1 o1 => ?_
          have hmap : (cd ci).map (ab_v B od) = cd ci := by
            rw [List.map_congr_left (g := id) (fun v hv => c5 v hv B od)]; simp
          have hR2 := hR.push (x := .inr (ci, cd ci)) (n := q.2.2) (H1 := H1) c4 hc1 hc2 ⟨_, hq, by rw [← hR.2.1, hmap]; exact (u_born (ct ci) (hws args) (fun w hw => hw) hKn hkC e1 c1).to c3⟩ z1 o1
          have kk := k _ _ _ _ hR2
          rw [hR.2.1]
          exact kk
        · cases hs
      · cases hs
    · cases hs
  case ldc x =>
    simp only [ab_s2] at hs
    split at hs
    · rename_i _ _ v hp
      cases hs
      have q := hPL _ _ hp
      exact lv_ldc hx hb hown (va_Nw.use rfl (hTs _ q)) hdg (k _ _ _ _ hR)
    · rename_i _ _ w hp
      cases hs
      obtain ⟨tx, q⟩ := hST _ _ _ _ hp
      exact va_ldcS hx hb hown q hdg (k _ _ _ _ hR)
    · cases hs
  case ldc2_w x =>
    simp only [ab_s2] at hs
    split at hs
    · rename_i _ _ v hp
      cases hs
      have q := hPL _ _ hp
      exact lv_ldc2 hx hb hown (va_Nw.use rfl (hTs _ q)) hdg (k _ _ _ _ hR)
    · cases hs
  all_goals (simp only [ab_s2] at hs; cases hs)
end AB2
