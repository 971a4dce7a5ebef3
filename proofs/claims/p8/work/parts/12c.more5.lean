def ab_wt (S : List Value) : Nat := (S.map fun v => v.category).sum
/-! more instructions: instanceof, casts of old objects, class constants, getClass of a row, System.arraycopy -/
/-- the copy may be made: all of ab_cpok, computed -/
def ab_cpb (aty : List FieldType) (sb : List (Nat × Nat)) (oo : Nat → Option (Nat × List Value)) (h : ab_H) (t n0 n1 : Nat) (f : Nat → Value) (sp dp n : Int32) : Bool := match aty[t]? with
  | some ty => !(decide (sp < 0)) && !(decide (dp < 0)) && !(decide (n < 0)) && decide (sp.toNatClampNeg + n.toNatClampNeg ≤ n0) && decide (dp.toNatClampNeg + n.toNatClampNeg ≤ n1) && (List.range n.toNatClampNeg).all (fun i => ab_el t ty sb oo h (f (sp.toNatClampNeg + i)))
  | none => false
theorem ab_cpb_ok {aty : List FieldType} {sb : List (Nat × Nat)} {oo : Nat → Option (Nat × List Value)} {h : ab_H} {t n0 n1 : Nat} {f : Nat → Value} {sp dp n : Int32} (hb : ab_cpb aty sb oo h t n0 n1 f sp dp n = true) : ab_cpok aty sb oo h t n0 n1 f sp dp n := by
  unfold ab_cpb at hb
  split at hb
  · rename_i ty hty
    simp only [Bool.and_eq_true, Bool.not_eq_true', decide_eq_false_iff_not, decide_eq_true_eq, List.all_eq_true, List.mem_range] at hb
    obtain ⟨⟨⟨⟨⟨b1, b2⟩, b3⟩, b4⟩, b5⟩, b6⟩ := hb
    exact ⟨b1, b2, b3, b4, b5, ty, hty, b6⟩
  · cases hb
/-- entries of a pool: 12 a class (number in cl); 15 a class as a constant; 16 getClass (kind of row, the class's object); 18 System.arraycopy; 19 clone of a row of bytes; 24 the class of rows of bytes -/
def ab_s5 (aty : List FieldType) (sb : List (Nat × Nat)) (oo : Nat → Option (Nat × List Value)) (NC NS : Nat) (pl : Nat → Option ab_N) (i : Instr) (pc : Nat) (S : List Value) (h : ab_H) : Option (Nat × List Value × ab_H) := match i with
  | .instanceof x => (match pl x, S with
    | some (12, ci, _, _), .ref j :: r => (match h[j]? with
      | some (.inr (cj, _)) => if ci = cj then some (pc + 3, .int 1 :: r, h) else none
      | _ => none)
    | some (12, ci, _, _), .float w :: r => (match oo w.toNat with
      | some (cj, _) => if ci = cj then some (pc + 3, .int 1 :: r, h) else none
      | _ => none)
    | _, _ => none)
  | .checkcast x => (match pl x, S with
    | some (12, ci, _, _), .float w :: r => (match oo w.toNat with
      | some (cj, _) => if ci = cj then some (pc + 3, .float w :: r, h) else none
      | _ => none)
    | some (24, _, _, _), .ref j :: r => (match h[j]? with
      | some (.inl (u, _, _)) => if aty[u]? = some .byte then some (pc + 3, .ref j :: r, h) else none
      | _ => none)
    | _, _ => none)
  | .ldc x => (match pl x with
    | some (15, _, _, .float w) => some (pc + 2, .float w :: S, h)
    | _ => none)
  | .invokevirtual x => (match pl x, S with
    | some (16, t, _, .float w), .ref j :: r => (match h[j]? with
      | some (.inl (u, _, _)) => if t = u ∧ ab_wt r ≤ 20 then some (pc + 3, .float w :: r, h) else none
      | _ => none)
    | some (19, _, _, _), .ref j :: r => (match h[j]? with
      | some (.inl (u, n, f)) => if aty[u]? = some .byte ∧ ab_wt r ≤ 20 ∧ h.length + 1 ≤ NC ∧ ab_sz h + n ≤ NS ∧ (List.range n).all (fun i => ab_el u .byte sb oo h (f i)) = true then some (pc + 3, .ref h.length :: r, h ++ [.inl (u, n, f)]) else none
      | _ => none)
    | _, _ => none)
  | .invokestatic x => (match pl x, S with
    | some (18, _, _, _), .int n :: .int dp :: .ref j1 :: .int sp :: .ref j0 :: r => (match h[j0]?, h[j1]? with
      | some (.inl (t, n0, f)), some (.inl (u, n1, g)) => if t = u ∧ ab_wt r ≤ 20 ∧ ab_cpb aty sb oo h t n0 n1 f sp dp n = true then some (pc + 3, r, h.set j1 (.inl (u, n1, va_cpy f g sp.toNatClampNeg dp.toNatClampNeg n.toNatClampNeg))) else none
      | _, _ => none)
    | _, _ => none)
  | _ => none
abbrev ab_gc : MethodName := ⟨"java/lang/Object", "getClass", "()Ljava/lang/Class;"⟩
/-- what the words Ts say of such an entry -/
def ab_q5 (aty : List FieldType) (Ts : List Cond) (own : String) (x : Nat) (n : ab_N) : Prop := match n with
  | (16, t, _, _) => ∃ C : String, aty[t]? = some (.object C) ∧ Cond.methodLink own x ab_gc ∈ Ts ∧ Cond.selects ("[" ++ (FieldType.object C).toString) ab_gc ab_gc ∈ Ts ∧ Cond.instanceMethod ab_gc ∈ Ts ∧ Cond.native ab_gc ∈ Ts
  | (19, _, _, _) => Cond.methodLink own x ⟨"[B", "clone", "()Ljava/lang/Object;"⟩ ∈ Ts ∧ Cond.sameMethod "[B" "java/lang/Object" "clone" "()Ljava/lang/Object;" ∈ Ts ∧ Cond.native ⟨"java/lang/Object", "clone", "()Ljava/lang/Object;"⟩ ∈ Ts ∧ Cond.instanceMethod ⟨"java/lang/Object", "clone", "()Ljava/lang/Object;"⟩ ∈ Ts ∧ Cond.selects "[B" ⟨"[B", "clone", "()Ljava/lang/Object;"⟩ ⟨"java/lang/Object", "clone", "()Ljava/lang/Object;"⟩ ∈ Ts ∧ Cond.castable "[B" "java/lang/Cloneable" ∈ Ts
  | (24, _, _, _) => Cond.classLink own x "[B" ∈ Ts
  | (18, _, _, _) => Cond.methodLink own x arraycopyName ∈ Ts ∧ Cond.native arraycopyName ∈ Ts ∧ Cond.static arraycopyName ∈ Ts ∧ Cond.initialized "java/lang/System" ∈ Ts
  | _ => True
/-- the classes' objects -/
def ab_MI (od : Nat → Nat) (aty : List FieldType) (Ts : List Cond) (own : String) (pl : Nat → Option ab_N) (s : State) : Prop :=
  (∀ (x a b : Nat) (w : UInt32), pl x = some (15, a, b, .float w) → ∃ C : String, va_Mi C (od w.toNat) s ∧ Cond.classLink own x C ∈ Ts) ∧
  ∀ (x t b : Nat) (w : UInt32) (C : String), pl x = some (16, t, b, .float w) → aty[t]? = some (.object C) → va_Mi ("[" ++ (FieldType.object C).toString) (od w.toNat) s ∧ va_Dc s
theorem ab_MI.moved {od : Nat → Nat} {aty : List FieldType} {Ts : List Cond} {own : String} {pl : Nat → Option ab_N} {s U : State} (hvm : s.vm.Alike U.vm) (h : ab_MI od aty Ts own pl s) : ab_MI od aty Ts own pl U :=
  ⟨fun x a b w hp => by obtain ⟨C, h1, h2⟩ := h.1 x a b w hp; exact ⟨C, h1.moved hvm, h2⟩, fun x t b w C hp ht => ⟨(h.2 x t b w C hp ht).1.moved hvm, (h.2 x t b w C hp ht).2.moved hvm⟩⟩
section AB10
variable {p : Program} {l : Launch} {e : Env} {R : Room} {s : State} {m : MethodId} {args : Array Value} {below : List Frame} {meth : Method} {c : Code} {H : Heap} {locs : List Loc} {cells slots : Nat} {Q : State → Prop}
variable {cc : ByteArray} {pc pc' tg nL len B n0 z0 NC NS : Nat} {od : Nat → Nat} {S S' : List Value} {h h' : ab_H} {i : Instr} {ls : Array Slot} {own : String}
variable {D : va_G} {dA : Nat → ClassId} {cl : List vw_C} {aty : List FieldType} {sb : List (Nat × Nat)} {oo : Nat → Option (Nat × List Value)} {pl : Nat → Option ab_N} {Ts : List Cond}
set_option maxHeartbeats 8000000 in
theorem ab_s5_ok (hx : p.tables.exec = Jvm.exec) (hb : c.code = cc) (hml : c.maxLocals = ls.size) (hown : s.vm.findClass own = some m.cls) (hTs : ∀ w ∈ Ts, va_Nw w s) (hKC : ab_KC D cl s) (hKA : ab_KA dA aty s) (hOO : ab_OO B od cl oo s s.heap) (hMI : ab_MI od aty Ts own pl s)
    (hsb : ∀ t ci, (t, ci) ∈ sb → ∃ (E : String) (r : vw_C), aty[t]? = some (.object E) ∧ cl[ci]? = some r ∧ (r.1 = E ∨ Cond.castable r.1 E ∈ Ts)) (hP4 : ∀ x n, pl x = some n → ab_p4 cl aty Ts own x n) (hQ5 : ∀ x n, pl x = some n → ab_q5 aty Ts own x n) (hfr : 1 ≤ R.frames) (hlo : 100 ≤ R.locals) (hNC : NC ≤ n0 + R.cells) (hNS : NS ≤ z0 + R.slots)
    (hdg : decode cc pc = .ok (i, len)) (hlen : ab_len i = 0 ∨ len = ab_len i) (hs : ab_s5 aty sb oo NC NS pl i pc S h = some (pc', S', h')) (hR : ab_R B od D dA cl NC NS s.heap n0 z0 h H locs cells slots)
    (k : ∀ (H' : Heap) (locs' : List Loc) (cells' slots' : Nat), ab_R B od D dA cl NC NS s.heap n0 z0 h' H' locs' cells' slots' → W p l e R s m args below meth c H' locs' cells' slots' Q (F0 m pc' ls (S'.map (ab_v B od)))) :
    W p l e R s m args below meth c H locs cells slots Q (F0 m pc ls (S.map (ab_v B od))) := by
  have hwt : ∀ r : List Value, ((r.map (ab_v B od)).map fun v => v.category).sum = ab_wt r := fun r => by
    unfold ab_wt
    rw [List.map_map]
    congr 1
    apply List.map_congr_left
    intro v _
    exact ab_v_cat B od v
  have hnw : nativeFrameWords "java/lang/System" "arraycopy" 5 ≤ 60 := by decide
  rcases hlen with hlen | hlen
  · cases i
    all_goals first | (simp only [ab_s5] at hs; cases hs; done) | (revert hlen; simp [ab_len]; done)
  subst hlen
  cases i
  case instanceof x =>
    simp only [ab_s5] at hs
    split at hs
    · rename_i ci _ _ j r hp
      split at hs
      · rename_i cj fs hj
        split at hs
        · rename_i hc
          subst hc
          cases hs
          obtain ⟨r1, hr1, hl1⟩ := hP4 _ _ hp
          obtain ⟨r2, hr2, cell, q1, q2, q3, q4⟩ := hR.1 j _ hj
          have er : r1 = r2 := Option.some.inj (hr1.symm.trans hr2)
          subst er
          exact va_instS hx hb hown (va_Nw.use rfl (hTs _ hl1)) (hKC ci r1 hr1).1.2 ⟨cell, q1, by rw [q3]; rfl, by rw [q2]; exact (hKC ci r1 hr1).1.2.1⟩ hdg (k _ _ _ _ hR)
        · cases hs
      · cases hs
    · rename_i ci _ _ w r hp
      split at hs
      · rename_i cj fs hw
        split at hs
        · rename_i hc
          subst hc
          cases hs
          obtain ⟨r1, hr1, hl1⟩ := hP4 _ _ hp
          obtain ⟨r2, hr2, hO, -⟩ := hOO _ _ _ hw
          have er : r1 = r2 := Option.some.inj (hr1.symm.trans hr2)
          subst er
          obtain ⟨cell, o1, o2, o3, -⟩ := hO.kept hR.2.2.1.2.1
          exact va_instS hx hb hown (va_Nw.use rfl (hTs _ hl1)) (hKC ci r1 hr1).1.2 ⟨cell, o1, o2, o3⟩ hdg (k _ _ _ _ hR)
        · cases hs
      · cases hs
    · cases hs
  case checkcast x =>
    simp only [ab_s5] at hs
    split at hs
    · rename_i ci _ _ w r hp
      split at hs
      · rename_i cj fs hw
        split at hs
        · rename_i hc
          subst hc
          cases hs
          obtain ⟨r1, hr1, hl1⟩ := hP4 _ _ hp
          obtain ⟨r2, hr2, hO, -⟩ := hOO _ _ _ hw
          have er : r1 = r2 := Option.some.inj (hr1.symm.trans hr2)
          subst er
          obtain ⟨cell, o1, o2, o3, -⟩ := hO.kept hR.2.2.1.2.1
          exact va_castS hx hb hown (va_Nw.use rfl (hTs _ hl1)) (hKC ci r1 hr1).1.2 ⟨cell, o1, o2, o3⟩ hdg (k _ _ _ _ hR)
        · cases hs
      · cases hs
    · rename_i j r hp
      split at hs
      · rename_i u n f hj
        split at hs
        · rename_i hc
          cases hs
          have hl1 := hQ5 _ _ hp
          obtain ⟨hA1, hA2, -⟩ := hKA u _ hc
          have q1 : H[B + j]? = some (arrV (dA u) n (fun q => ab_v B od (f q))) := hR.1 j _ hj
          intro T hT X
          obtain ⟨vm', X', st⟩ := X.checkcastYes hx hown (va_Nw.use rfl (hTs _ hl1)) (by rw [hT]; exact q1) rfl (show s.vm.findClass "[B" = some (dA u) from hA2) (va_asg _ _) (g := F0 m pc ls (List.map (ab_v B od) (Value.ref j :: r))) rfl rfl (by rw [hb]; exact hdg)
          obtain ⟨t', a1, b1⟩ := (k _ _ _ _ hR) (T.setVm vm') hT X'
          exact ⟨t', st t' a1, b1⟩
        · cases hs
      · cases hs
    · cases hs
  case ldc x =>
    simp only [ab_s5] at hs
    split at hs
    · rename_i _ _ w hp
      cases hs
      obtain ⟨C, hM, hl⟩ := hMI.1 _ _ _ _ hp
      exact va_ldcM hx hb hown (va_Nw.use rfl (hTs _ hl)) hM hdg (k _ _ _ _ hR)
    · cases hs
  case invokevirtual x =>
    simp only [ab_s5] at hs
    split at hs
    · rename_i t _ w j r hp
      split at hs
      · rename_i u n f hj
        split at hs
        · rename_i hc
          obtain ⟨rfl, hc2⟩ := hc
          cases hs
          obtain ⟨C, ht, l1, l2, l3, l4⟩ := hQ5 _ _ hp
          obtain ⟨hM, hDc⟩ := hMI.2 _ _ _ _ C hp ht
          obtain ⟨hA1, hA2, -⟩ := hKA t _ ht
          obtain ⟨kA, comp, k1, k2, k3, k4⟩ := hA2
          refine va_getC hx hb hml hown (va_Nw.use rfl (hTs _ l1)) (va_Dc.use hDc) (va_Nw.use rfl (hTs _ l2)) (va_Nw.use rfl (hTs _ l3)) (va_Nw.use rfl (hTs _ l4)) hM ⟨_, hR.1 j _ hj, rfl, k4⟩ hfr ?_ hdg (k _ _ _ _ hR)
          have z := hwt r
          omega
        · cases hs
      · cases hs
    · rename_i j r hp
      split at hs
      · rename_i u n f hj
        split at hs
        · rename_i hc
          obtain ⟨ht, hc2, hc3, hc4, hc5⟩ := hc
          cases hs
          obtain ⟨l1, l2, l3, l4, l5, l6⟩ := hQ5 _ _ hp
          obtain ⟨hA1, hA2, -⟩ := hKA u _ ht
          have hnm : s.vm.findClass "[B" = some (dA u) := hA2
          obtain ⟨c0, t0', f1, f2, f3⟩ := Cond.castable_spec (hTs _ l6)
          cases hnm.symm.trans f1
          have q1 : H[B + j]? = some (arrV (dA u) n (fun q => ab_v B od (f q))) := hR.1 j _ hj
          have hfits : ∀ i, i < n → fits .byte (ab_v B od (f i)) = true := fun i hi => by
            have z := List.all_eq_true.mp hc5 i (List.mem_range.mpr hi)
            unfold ab_el at z
            split at z
            · rename_i x hx'
              rw [hx']; exact z
            · rename_i hty _; cases hty
            · rename_i hty _; cases hty
            · rename_i hty _; cases hty
            · cases z
          intro T hT X
          obtain ⟨-, kA, hkA, comp, hkind⟩ := State.isArrayOf_alike X.warmed.alike (hA1 0 (fun _ => .null))
          obtain ⟨-, kS, hkS, compS, hkindS⟩ := hA1 0 (fun _ => .null)
          have z4 := hR.2.2.2.1
          have z5 := hR.2.2.2.2.1
          obtain ⟨vm', X', st⟩ := X.cloneArray hx hown (va_Nw.use rfl (hTs _ l1)) (va_Nw.use rfl (hTs _ l2)) (va_Nw.use rfl (hTs _ l3)) (va_Nw.use rfl (hTs _ l4)) (va_Nw.use rfl (hTs _ l5)) (a := B + j) (cell := arrV (dA u) n (fun q => ab_v B od (f q))) (by rw [hT]; exact q1) (fun k h => by cases h) (fun h => by cases h) hnm f2 f3
            (fun i v hv => by
              have hk' : T.vm.classes[dA u]? = some kA := hkA
              have hi : i < n := by
                have := (Array.getElem?_eq_some_iff.mp hv).1
                rw [arrV_size] at this
                exact this
              rw [arrV_read _ _ hi] at hv
              cases hv
              simpa [State.fitsSlot, State.slotType?, arrV, hk', hkind] using hfits i hi)
            (g := F0 m pc ls (List.map (ab_v B od) (Value.ref j :: r))) rfl (by rw [hml]) rfl (by rw [hb]; exact hdg) hfr (by show 2 * 0 + _ + 14 ≤ _; have z := hwt r; omega) (by omega) (by rw [arrV_size]; omega) (hloader := Vm.clonesLoader_of_array hkS hkindS)
          rw [arrV_size] at X'
          generalize hH1 : H.push (arrV (dA u) n (fun q => ab_v B od (f q))) = H1
          have z1 : H1.size = H.size + 1 := by rw [← hH1, Array.size_push]
          have e1 : H1[H.size]? = some (arrV (dA u) n (fun q => ab_v B od (f q))) := by rw [← hH1, Array.getElem?_push_size]
          have o1 : ∀ q : Nat, q < H.size → H1[q]? = H[q]? := fun q hq => by rw [← hH1, Array.getElem?_push, if_neg (Nat.ne_of_lt hq)]
          have hR2 := hR.push (x := .inl (u, n, f)) (n := n) (H1 := H1) rfl hc3 hc4 (by show H1[B + h.length]? = some (arrV (dA u) n (fun q => ab_v B od (f q))); rw [← hR.2.1]; exact e1) z1 o1
          obtain ⟨t', b1, b2⟩ := k _ _ _ _ hR2 ((T.setVm vm').pushCell (arrV (dA u) n (fun q => ab_v B od (f q)))) (by rw [← hH1, ← hT]; rfl) X'
          refine ⟨t', st t' ?_, b2⟩
          rw [hT, hR.2.1]
          exact b1
        · cases hs
      · cases hs
    · cases hs
  case invokestatic x =>
    simp only [ab_s5] at hs
    split at hs
    · rename_i n dp j1 sp j0 r hp
      split at hs
      · rename_i t N0 f u N1 g hj0 hj1
        split at hs
        · rename_i hc
          obtain ⟨rfl, hc2, hc3⟩ := hc
          cases hs
          obtain ⟨l1, l2, l3, l4⟩ := hQ5 _ _ hp
          refine ab_copy hx hb hml hown (va_Nw.use rfl (hTs _ l1)) (va_Nw.use rfl (hTs _ l2)) (va_Nw.use rfl (hTs _ l3)) (va_Nw.use rfl (hTs _ l4)) hTs hKC hKA hOO hsb hR hj0 hj1 (ab_cpb_ok hc3) hfr ?_ hdg (fun H1 locs1 hR1 => k _ _ _ _ hR1)
          have z := hwt S'
          omega
        · cases hs
      · cases hs
    · cases hs
  all_goals (simp only [ab_s5] at hs; cases hs)
end AB10
