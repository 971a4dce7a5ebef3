/-! more instructions: statics, references compared, casts, arrays of references, old objects -/
def ab_acmp (oa : Nat → Option (FieldType × Nat × (Nat → Value))) (oo : Nat → Option (Nat × List Value)) (a b : Value) : Option Bool := match a, b with
  | .ref x, .ref y => some (x == y)
  | .null, .null => some true
  | .null, .ref _ => some false
  | .ref _, .null => some false
  | .null, .float _ => some false
  | .float _, .null => some false
  | .ref _, .float w => if (oo w.toNat).isSome = true ∨ (oa w.toNat).isSome = true then some false else none
  | .float w, .ref _ => if (oo w.toNat).isSome = true ∨ (oa w.toNat).isSome = true then some false else none
  | .float x, .float y => if x = y then some true else if (oo x.toNat).isSome = true ∧ (oo y.toNat).isSome = true then some false else none
  | _, _ => none
def ab_qa (B : Nat) (od : Nat → Nat) (v : Value) : Option Nat := match v with
  | .ref x => some (B + x)
  | .float w => some (od w.toNat)
  | _ => none
theorem ab_acmp_ok {B : Nat} {od : Nat → Nat} {oa : Nat → Option (FieldType × Nat × (Nat → Value))} {oo : Nat → Option (Nat × List Value)} (hod : ∀ w, ((oo w).isSome = true ∨ (oa w).isSome = true) → od w < B) (hinj : ∀ w w', (oo w).isSome = true → (oo w').isSome = true → od w = od w' → w = w') {a b : Value} {t : Bool} (h : ab_acmp oa oo a b = some t) : ab_v B od a = va_rf (ab_qa B od a) ∧ ab_v B od b = va_rf (ab_qa B od b) ∧ (ab_qa B od a = ab_qa B od b ↔ t = true) := by
  unfold ab_acmp at h
  split at h
  all_goals first | (cases h; done) | skip
  · rename_i x y
    cases h
    refine ⟨rfl, rfl, ?_⟩
    simp [ab_qa]
  · cases h; exact ⟨rfl, rfl, by simp [ab_qa]⟩
  · cases h; exact ⟨rfl, rfl, by simp [ab_qa]⟩
  · cases h; exact ⟨rfl, rfl, by simp [ab_qa]⟩
  · cases h; exact ⟨rfl, rfl, by simp [ab_qa]⟩
  · cases h; exact ⟨rfl, rfl, by simp [ab_qa]⟩
  · rename_i x w
    split at h
    · rename_i hk
      cases h
      refine ⟨rfl, rfl, ?_⟩
      have := hod w.toNat hk
      simp [ab_qa]
      omega
    · cases h
  · rename_i w x
    split at h
    · rename_i hk
      cases h
      refine ⟨rfl, rfl, ?_⟩
      have := hod w.toNat hk
      simp [ab_qa]
      omega
    · cases h
  · rename_i x y
    split at h
    · rename_i e
      subst e
      cases h
      exact ⟨rfl, rfl, by simp⟩
    · rename_i hne
      split at h
      · rename_i hs
        cases h
        refine ⟨rfl, rfl, ?_⟩
        have z : od x.toNat ≠ od y.toNat := fun e => hne (UInt32.toNat_inj.mp (hinj _ _ hs.1 hs.2 e))
        simp [ab_qa, z]
      · cases h
/-- pool: 4 static (its value); 6 array class (place in aty); 12 cast to a class (number); 13 cast to an array class (place in aty) -/
def ab_s4 (aty : List FieldType) (oa : Nat → Option (FieldType × Nat × (Nat → Value))) (sb : List (Nat × Nat)) (oo : Nat → Option (Nat × List Value)) (NC NS : Nat) (pl : Nat → Option ab_N) (i : Instr) (pc tg : Nat) (S : List Value) (h : ab_H) : Option (Nat × List Value × ab_H) := match i with
  | .if_acmp .eq _ => (match S with
    | b :: a :: r => (match ab_acmp oa oo a b with | some t => some (if t = true then tg else pc + 3, r, h) | none => none)
    | _ => none)
  | .if_acmp .ne _ => (match S with
    | b :: a :: r => (match ab_acmp oa oo a b with | some t => some (if t = true then pc + 3 else tg, r, h) | none => none)
    | _ => none)
  | .getstatic x => (match pl x with
    | some (4, _, _, v) => some (pc + 3, v :: S, h)
    | _ => none)
  | .getfield x => (match pl x, S with
    | some (0, a, b, _), .float w :: r => (match oo w.toNat with
      | some (ci, fs) => if ci = a then (match fs[b]? with | some v => some (pc + 3, v :: r, h) | none => none) else none
      | none => none)
    | _, _ => none)
  | .checkcast x => (match S with
    | .null :: _ => some (pc + 3, S, h)
    | .ref j :: _ => (match pl x, h[j]? with
      | some (12, ci, _, _), some (.inr (cj, _)) => if ci = cj then some (pc + 3, S, h) else none
      | some (13, t, _, _), some (.inl (u, _, _)) => if t = u then some (pc + 3, S, h) else none
      | _, _ => none)
    | _ => none)
  | .anewarray x => (match S, pl x with
    | .int y :: r, some (6, t, _, _) => if ¬ y < 0 ∧ y.toNatClampNeg ≤ 65536 ∧ h.length + 1 ≤ NC ∧ ab_sz h + y.toNatClampNeg ≤ NS then some (pc + 3, .ref h.length :: r, h ++ [.inl (t, y.toNatClampNeg, fun _ => .null)]) else none
    | _, _ => none)
  | .aastore => (match S with
    | .ref v :: .int x :: .ref j :: r => (match h[v]?, h[j]? with
      | some (.inr (ci, _)), some (.inl (t, n, f)) => if (t, ci) ∈ sb ∧ ab_ix x n = true then some (pc + 1, r, h.set j (.inl (t, n, updV f x.toNatClampNeg (.ref v)))) else none
      | _, _ => none)
    | .float w :: .int x :: .ref j :: r => (match oo w.toNat, h[j]? with
      | some (ci, _), some (.inl (t, n, f)) => if (t, ci) ∈ sb ∧ ab_ix x n = true then some (pc + 1, r, h.set j (.inl (t, n, updV f x.toNatClampNeg (.float w)))) else none
      | _, _ => none)
    | .null :: .int x :: .ref j :: r => (match h[j]? with
      | some (.inl (t, n, f)) => if (aty[t]?).map ab_isR = some true ∧ ab_ix x n = true then some (pc + 1, r, h.set j (.inl (t, n, updV f x.toNatClampNeg .null))) else none
      | _ => none)
    | _ => none)
  | _ => none
/-- what the words Ts say of such an entry -/
def ab_p4 (cl : List vw_C) (aty : List FieldType) (Ts : List Cond) (own : String) (x : Nat) (n : ab_N) : Prop := match n with
  | (6, t, _, _) => ∃ C : String, aty[t]? = some (.object C) ∧ Cond.classLink own x C ∈ Ts
  | (12, ci, _, _) => ∃ r : vw_C, cl[ci]? = some r ∧ Cond.classLink own x r.1 ∈ Ts
  | (13, t, _, _) => ∃ C : String, aty[t]? = some (.object C) ∧ Cond.classLink own x ("[" ++ (FieldType.object C).toString) ∈ Ts
  | _ => True
def ab_OO (B : Nat) (od : Nat → Nat) (cl : List vw_C) (oo : Nat → Option (Nat × List Value)) (s : State) (H : Heap) : Prop := ∀ (w ci : Nat) (fs : List Value), oo w = some (ci, fs) → ∃ r : vw_C, cl[ci]? = some r ∧ va_O r.1 (od w) (fun q => B ≤ q) s H ∧ ∀ (b : Nat) (v : Value), fs[b]? = some v → b < r.2.2 ∧ va_OF (r.2.1 b).1 (r.2.1 b).2.1 (r.2.1 b).2.2.1 (ab_v B od v) (od w) (fun q => B ≤ q) s H
def ab_SZ (B : Nat) (od : Nat → Nat) (Ts : List Cond) (own : String) (pl : Nat → Option ab_N) (s : State) (H : Heap) : Prop := ∀ (x a b : Nat) (v : Value), pl x = some (4, a, b, v) → ∃ C n d : String, va_Z C n d (ab_v B od v) (fun q => B ≤ q) s H ∧ Cond.fieldLink own x C n d ∈ Ts
section AB4
variable {p : Program} {l : Launch} {e : Env} {R : Room} {s : State} {m : MethodId} {args : Array Value} {below : List Frame} {meth : Method} {c : Code} {H : Heap} {locs : List Loc} {cells slots : Nat} {Q : State → Prop}
variable {cc : ByteArray} {pc pc' tg nL len B n0 z0 NC NS : Nat} {od : Nat → Nat} {S S' : List Value} {h h' : ab_H} {i : Instr} {ls : Array Slot} {own : String}
variable {D : va_G} {dA : Nat → ClassId} {cl : List vw_C} {aty : List FieldType} {oa : Nat → Option (FieldType × Nat × (Nat → Value))} {sb : List (Nat × Nat)} {oo : Nat → Option (Nat × List Value)} {pl : Nat → Option ab_N} {Ts : List Cond}
theorem ab_aast (hx : p.tables.exec = Jvm.exec) (hb : c.code = cc) (hTs : ∀ w ∈ Ts, va_Nw w s) (hKC : ab_KC D cl s) (hKA : ab_KA dA aty s) (hsb : ∀ t ci, (t, ci) ∈ sb → ∃ (E : String) (r : vw_C), aty[t]? = some (.object E) ∧ cl[ci]? = some r ∧ (r.1 = E ∨ Cond.castable r.1 E ∈ Ts)) (hR : ab_R B od D dA cl NC NS s.heap n0 z0 h H locs cells slots)
    {t ci j n : Nat} {f : Nat → Value} {v : Value} {a : Nat} {x : Int32} {r : List Value} (hv : ab_v B od v = .ref a) (hcell : ∃ cell : Cell, H[a]? = some cell ∧ cell.vm.isStatics = false ∧ ∀ r : vw_C, cl[ci]? = some r → s.vm.findClass r.1 = some cell.cls) (hj : h[j]? = some (.inl (t, n, f))) (hin : (t, ci) ∈ sb) (hix : ab_ix x n = true) (hdg : decode cc pc = .ok (.aastore, 1))
    (k : ∀ (H1 : Heap) (locs1 : List Loc), ab_R B od D dA cl NC NS s.heap n0 z0 (h.set j (.inl (t, n, updV f x.toNatClampNeg v))) H1 locs1 cells slots → W p l e R s m args below meth c H1 locs1 cells slots Q (F0 m (pc + 1) ls r)) : W p l e R s m args below meth c H locs cells slots Q (F0 m pc ls (ab_v B od v :: .int x :: .ref (B + j) :: r)) := by
  obtain ⟨E, r1, ht, hr1, hw⟩ := hsb t ci hin
  obtain ⟨hA1, hA2, -⟩ := hKA t _ ht
  obtain ⟨kA, comp, k1, k2, k3, -⟩ := hA2
  obtain ⟨kE, hkE, -⟩ := Vm.findClass_spec k3
  obtain ⟨cellV, g1, g2, g3⟩ := hcell
  have g3 := g3 r1 hr1
  have f3 : s.vm.assignable cellV.cls comp = true := by
    rcases hw with rfl | hw
    · cases g3.symm.trans k3
      have hca := (hKC ci r1 hr1).1.2
      have he := Option.some.inj (hca.1.symm.trans g3)
      have h1 := va_assign hca
      rw [he] at h1
      exact h1
    · obtain ⟨c0, t1, f1, f2, f3⟩ := Cond.castable_spec (hTs _ hw)
      cases g3.symm.trans f1
      cases k3.symm.trans f2
      exact f3
  obtain ⟨kC, hkC, -⟩ := Vm.findClass_spec g3
  have hin2 := ab_ix_in hix
  rw [hv]
  refine W.aast hx hb (hR.1 j _ hj) (fun q h => by cases h) (fun h => by cases h) k1 k2 rfl hkE ⟨fun q => hin2 (Or.inl q), by rw [arrV_size]; omega⟩ g1 (fun q h => by rw [h] at g2; cases g2) hkC f3 rfl rfl hdg fun H1 e1 e2 e3 => ?_
  exact k H1 _ (ab_ast hR hj (by rw [hv]; exact e1) e2 e3)
set_option maxHeartbeats 8000000 in
theorem ab_s4_ok (hx : p.tables.exec = Jvm.exec) (hb : c.code = cc) (hown : s.vm.findClass own = some m.cls) (hTs : ∀ w ∈ Ts, va_Nw w s) (hKC : ab_KC D cl s) (hKA : ab_KA dA aty s) (hAO : ∀ (t : Nat) (C : String), aty[t]? = some (.object C) → va_AO C s) (hOA : ab_OA B od oa s s.heap) (hinj : ∀ w w', (oo w).isSome = true → (oo w').isSome = true → od w = od w' → w = w') (hOO : ab_OO B od cl oo s s.heap) (hSZ : ab_SZ B od Ts own pl s s.heap)
    (hsb : ∀ t ci, (t, ci) ∈ sb → ∃ (E : String) (r : vw_C), aty[t]? = some (.object E) ∧ cl[ci]? = some r ∧ (r.1 = E ∨ Cond.castable r.1 E ∈ Ts)) (hPL : ∀ x n, pl x = some n → ab_pe cl Ts own x n) (hP4 : ∀ x n, pl x = some n → ab_p4 cl aty Ts own x n)
    (hNC : NC ≤ n0 + R.cells) (hNS : NS ≤ z0 + R.slots) (hdg : decode cc pc = .ok (i, len)) (hlen : ab_len i = 0 ∨ len = ab_len i) (htg0 : ∀ off, ab_off i = some off → (pc : Int) + off = (tg : Int)) (hs : ab_s4 aty oa sb oo NC NS pl i pc tg S h = some (pc', S', h')) (hR : ab_R B od D dA cl NC NS s.heap n0 z0 h H locs cells slots)
    (k : ∀ (H' : Heap) (locs' : List Loc) (cells' slots' : Nat), ab_R B od D dA cl NC NS s.heap n0 z0 h' H' locs' cells' slots' → W p l e R s m args below meth c H' locs' cells' slots' Q (F0 m pc' ls (S'.map (ab_v B od)))) :
    W p l e R s m args below meth c H locs cells slots Q (F0 m pc ls (S.map (ab_v B od))) := by
  have hod : ∀ w, ((oo w).isSome = true ∨ (oa w).isSome = true) → od w < B := fun w hk => by
    rcases hk with hk | hk
    · obtain ⟨⟨ci, fs⟩, hz⟩ := Option.isSome_iff_exists.mp hk
      obtain ⟨r, -, hO, -⟩ := hOO w ci fs hz
      obtain ⟨cell, -, -, -, hn⟩ := hO
      exact Nat.not_le.mp hn
    · obtain ⟨⟨t, n, f⟩, hz⟩ := Option.isSome_iff_exists.mp hk
      exact (hOA w t n f hz).1
  rcases hlen with hlen | hlen
  · cases i
    all_goals first | (simp only [ab_s4] at hs; cases hs; done) | (revert hlen; simp [ab_len]; done)
  subst hlen
  cases i
  case if_acmp cd off =>
    have htg := htg0 _ rfl
    cases cd
    case eq =>
      simp only [ab_s4] at hs
      split at hs
      · rename_i b a r
        split at hs
        · rename_i t ht
          cases hs
          obtain ⟨e1, e2, e3⟩ := ab_acmp_ok hod hinj ht
          have kk := k _ _ _ _ hR
          have hgl : W p l e R s m args below meth c H locs cells slots Q (F0 m pc ls (va_rf (ab_qa B od b) :: va_rf (ab_qa B od a) :: S'.map (ab_v B od))) :=
            lv_acmp_eq hx hb hdg htg (fun hc => by rw [if_pos (e3.mp hc)] at kk; exact kk) (fun hc => by rw [if_neg (fun z => hc (e3.mpr z))] at kk; exact kk)
          rw [← e1, ← e2] at hgl
          exact hgl
        · cases hs
      · cases hs
    case ne =>
      simp only [ab_s4] at hs
      split at hs
      · rename_i b a r
        split at hs
        · rename_i t ht
          cases hs
          obtain ⟨e1, e2, e3⟩ := ab_acmp_ok hod hinj ht
          have kk := k _ _ _ _ hR
          have hgl : W p l e R s m args below meth c H locs cells slots Q (F0 m pc ls (va_rf (ab_qa B od b) :: va_rf (ab_qa B od a) :: S'.map (ab_v B od))) :=
            lv_acmp_ne hx hb hdg htg (fun hc => by rw [if_neg (fun z => hc (e3.mpr z))] at kk; exact kk) (fun hc => by rw [if_pos (e3.mp hc)] at kk; exact kk)
          rw [← e1, ← e2] at hgl
          exact hgl
        · cases hs
      · cases hs
  case getstatic x =>
    simp only [ab_s4] at hs
    split at hs
    · rename_i _ _ v hp
      cases hs
      obtain ⟨C, n, d, hZ, hl⟩ := hSZ _ _ _ _ hp
      exact va_gets hx hb hZ hR.2.2.1 hown (va_Nw.use rfl (hTs _ hl)) (fun z hz => hz) hdg (k _ _ _ _ hR)
    · cases hs
  case getfield x =>
    simp only [ab_s4] at hs
    split at hs
    · rename_i a b fl w r hp
      split at hs
      · rename_i ci fs hw
        split at hs
        · rename_i hc
          subst hc
          split at hs
          · rename_i v hv
            cases hs
            obtain ⟨r1, hr1, -, hfl⟩ := hOO _ _ _ hw
            obtain ⟨hbb, hOF⟩ := hfl _ _ hv
            obtain ⟨r2, ref, hr2, hb2, hl2, hs2, -⟩ := hPL _ _ hp
            cases hr1.symm.trans hr2
            exact vk_getf hx hb hOF hR.2.2.1 hown (va_Nw.use rfl (hTs _ hl2)) (ab_same hTs hs2) hdg (k _ _ _ _ hR)
          · cases hs
        · cases hs
      · cases hs
    · cases hs
  case checkcast x =>
    simp only [ab_s4] at hs
    split at hs
    · rename_i r
      cases hs
      exact lv_castN hx hb hdg (k _ _ _ _ hR)
    · rename_i j r
      split at hs
      · rename_i ci _ _ cj fs hp hj
        split at hs
        · rename_i hc
          subst hc
          cases hs
          obtain ⟨r1, hr1, hl1⟩ := hP4 _ _ hp
          obtain ⟨r2, hr2, cell, q1, q2, q3, q4⟩ := hR.1 j _ hj
          cases hr1.symm.trans hr2
          exact va_castS hx hb hown (va_Nw.use rfl (hTs _ hl1)) (hKC ci r1 hr1).1.2 ⟨cell, q1, by rw [q3]; rfl, by rw [q2]; exact (hKC ci r1 hr1).1.2.1⟩ hdg (k _ _ _ _ hR)
        · cases hs
      · rename_i t _ _ u n f hp hj
        split at hs
        · rename_i hc
          subst hc
          cases hs
          obtain ⟨C, ht, hl1⟩ := hP4 _ _ hp
          obtain ⟨hA1, hA2, -⟩ := hKA t _ ht
          obtain ⟨kA, comp, k1, k2, k3, k4⟩ := hA2
          have q1 : H[B + j]? = some (arrV (dA t) n (fun q => ab_v B od (f q))) := hR.1 j _ hj
          intro T hT X
          obtain ⟨vm', X', st⟩ := X.checkcastYes hx hown (va_Nw.use rfl (hTs _ hl1)) (by rw [hT]; exact q1) rfl k4 (va_asg _ _) (g := F0 m pc ls (List.map (ab_v B od) (Value.ref j :: r))) rfl rfl (by rw [hb]; exact hdg)
          obtain ⟨t', a1, b1⟩ := (k _ _ _ _ hR) (T.setVm vm') hT X'
          exact ⟨t', st t' a1, b1⟩
        · cases hs
      · cases hs
    · cases hs
  case anewarray x =>
    simp only [ab_s4] at hs
    split at hs
    · rename_i y r t _ _ hp
      split at hs
      · rename_i hc
        obtain ⟨hn, hbig, hc1, hc2⟩ := hc
        cases hs
        obtain ⟨C, ht, hl1⟩ := hP4 _ _ hp
        obtain ⟨hA1, hA2, -⟩ := hKA t _ ht
        obtain ⟨kA, comp, k1, k2, k3, k4⟩ := hA2
        have q4 := hR.2.2.2.1
        have q5 := hR.2.2.2.2.1
        refine W.anew hx hb hown (va_Nw.use rfl (hTs _ hl1)) (va_AO.use (hAO t C ht)) rfl hdg rfl hn (by omega) (by omega) (by omega) fun cA kA2 comp2 f1 f2 f3 f4 => ?_
        have hcA : cA = dA t := Option.some.inj (f1.symm.trans k4)
        subst hcA
        generalize hH1 : H.push ({ cls := dA t, slots := Array.replicate y.toNatClampNeg .null, vm := .none } : Cell) = H1
        have z1 : H1.size = H.size + 1 := by rw [← hH1, Array.size_push]
        have e1 : H1[H.size]? = some (arrV (dA t) y.toNatClampNeg (fun _ => .null)) := by rw [← hH1, Array.getElem?_push_size, ← arrV_new]
        have o1 : ∀ q : Nat, q < H.size → H1[q]? = H[q]? := fun q hq => by rw [← hH1, Array.getElem?_push, if_neg (Nat.ne_of_lt hq)]
        have hR2 := hR.push (x := .inl (t, y.toNatClampNeg, fun _ => .null)) (n := y.toNatClampNeg) (H1 := H1) rfl hc1 hc2 (by show H1[B + h.length]? = some (arrV (dA t) y.toNatClampNeg (fun _ => .null)); rw [← hR.2.1]; exact e1) z1 o1
        have kk := k _ _ _ _ hR2
        rw [hR.2.1]
        exact kk
      · cases hs
    · cases hs
  case aastore =>
    simp only [ab_s4] at hs
    split at hs
    · rename_i v x j r
      split at hs
      · rename_i ci fs t n f hv hj
        split at hs
        · rename_i hc
          obtain ⟨hc1, hc2⟩ := hc
          cases hs
          obtain ⟨r2, hr2, cell, q1, q2, q3, q4⟩ := hR.1 v _ hv
          exact ab_aast hx hb hTs hKC hKA hsb hR (v := .ref v) rfl ⟨cell, q1, by rw [q3]; rfl, fun r hr => by cases hr.symm.trans hr2; rw [q2]; exact (hKC ci _ hr2).1.2.1⟩ hj hc1 hc2 hdg (fun H1 locs1 hR1 => k _ _ _ _ hR1)
        · cases hs
      · cases hs
    · rename_i w x j r
      split at hs
      · rename_i ci fs t n f hw hj
        split at hs
        · rename_i hc
          obtain ⟨hc1, hc2⟩ := hc
          cases hs
          obtain ⟨r1, hr1, hO, -⟩ := hOO _ _ _ hw
          obtain ⟨cell, o1, o2, o3, -⟩ := hO.kept hR.2.2.1.2.1
          exact ab_aast hx hb hTs hKC hKA hsb hR (v := .float w) rfl ⟨cell, o1, o2, fun r hr => by cases hr.symm.trans hr1; exact o3⟩ hj hc1 hc2 hdg (fun H1 locs1 hR1 => k _ _ _ _ hR1)
        · cases hs
      · cases hs
    · rename_i x j r
      split at hs
      · rename_i t n f hj
        split at hs
        · rename_i hc
          cases hs
          obtain ⟨C, ht⟩ : ∃ C, aty[t]? = some (.object C) := by
            cases ha : aty[t]? with
            | none => rw [ha] at hc; simp at hc
            | some ty =>
              rw [ha] at hc
              cases ty <;> first | exact ⟨_, rfl⟩ | (simp [ab_isR] at hc)
          have hin := ab_ix_in hc.2
          exact va_WaastN (C := C) hx hb (hR.1 j _ hj) ((hKA t _ ht).1 n _) (fun h => by cases h) (by rw [arrV_size]; exact hin) rfl rfl hdg fun H1 e1 e2 e3 => k _ _ _ _ (ab_ast hR hj (v := .null) e1 e2 e3)
        · cases hs
      · cases hs
    · cases hs
  all_goals (simp only [ab_s4] at hs; cases hs)
end AB4
