/-! System.arraycopy between two new rows of one kind -/
/-- a row of this kind may take this value -/
def ab_el (t : Nat) (ty : FieldType) (sb : List (Nat × Nat)) (oo : Nat → Option (Nat × List Value)) (h : ab_H) (v : Value) : Bool := match ty, v with
  | .byte, .int x => fits .byte (.int x)
  | .object _, .null => true
  | .object _, .ref q => (match h[q]? with
    | some (.inr (ci, _)) => sb.contains (t, ci)
    | _ => false)
  | .object _, .float w => (match oo w.toNat with
    | some (ci, _) => sb.contains (t, ci)
    | none => false)
  | _, _ => false
def ab_cpok (aty : List FieldType) (sb : List (Nat × Nat)) (oo : Nat → Option (Nat × List Value)) (h : ab_H) (t n0 n1 : Nat) (f : Nat → Value) (sp dp n : Int32) : Prop :=
  ¬ sp < 0 ∧ ¬ dp < 0 ∧ ¬ n < 0 ∧ sp.toNatClampNeg + n.toNatClampNeg ≤ n0 ∧ dp.toNatClampNeg + n.toNatClampNeg ≤ n1 ∧ ∃ ty, aty[t]? = some ty ∧ ∀ i, i < n.toNatClampNeg → ab_el t ty sb oo h (f (sp.toNatClampNeg + i)) = true
section AB8
variable {p : Program} {l : Launch} {e : Env} {R : Room} {s : State} {m : MethodId} {args : Array Value} {below : List Frame} {meth : Method} {c : Code} {H : Heap} {locs : List Loc} {cells slots : Nat} {Q : State → Prop}
variable {cc : ByteArray} {pc B n0 z0 NC NS : Nat} {od : Nat → Nat} {h : ab_H} {ls : Array Slot} {own : String}
variable {D : va_G} {dA : Nat → ClassId} {cl : List vw_C} {aty : List FieldType} {sb : List (Nat × Nat)} {oo : Nat → Option (Nat × List Value)} {Ts : List Cond}
/-- an object of class ci, in the heap, may lie in a row of kind t -/
theorem ab_takes (hTs : ∀ w ∈ Ts, va_Nw w s) (hKC : ab_KC D cl s) (hKA : ab_KA dA aty s) (hsb : ∀ t ci, (t, ci) ∈ sb → ∃ (E : String) (r : vw_C), aty[t]? = some (.object E) ∧ cl[ci]? = some r ∧ (r.1 = E ∨ Cond.castable r.1 E ∈ Ts)) {t ci : Nat} (hin : (t, ci) ∈ sb) {cellV : Cell} (g3 : ∀ r : vw_C, cl[ci]? = some r → s.vm.findClass r.1 = some cellV.cls) {kA : Class} {comp : ClassId} {ty : FieldType} (k1 : s.vm.classes[dA t]? = some kA) (k2 : kA.kind = .array comp ty) :
    (∃ kC, s.vm.classes[cellV.cls]? = some kC) ∧ (∃ kE, s.vm.classes[comp]? = some kE) ∧ s.vm.assignable cellV.cls comp = true := by
  obtain ⟨E, r1, ht, hr1, hw⟩ := hsb t ci hin
  obtain ⟨hA1, hA2, -⟩ := hKA t _ ht
  obtain ⟨kA', comp', k1', k2', k3, -⟩ := hA2
  cases k1.symm.trans k1'
  cases k2.symm.trans k2'
  obtain ⟨kE, hkE, -⟩ := Vm.findClass_spec k3
  have g3 := g3 r1 hr1
  have f3 : s.vm.assignable cellV.cls comp = true := by
    rcases hw with rfl | hw
    · cases g3.symm.trans k3
      have hca := (hKC ci r1 hr1).1.2
      have he := Option.some.inj (hca.1.symm.trans g3)
      have h1 := va_assign hca
      rw [he] at h1
      exact h1
    · obtain ⟨c0, t1, f1, f2, f3⟩ := Cond.castable_spec (hTs _ hw)
      cases g3.symm.trans f1
      cases k3.symm.trans f2
      exact f3
  obtain ⟨kC, hkC, -⟩ := Vm.findClass_spec g3
  exact ⟨⟨kC, hkC⟩, ⟨kE, hkE⟩, f3⟩
set_option maxHeartbeats 4000000 in
theorem ab_copy (hx : p.tables.exec = Jvm.exec) (hb : c.code = cc) (hml : c.maxLocals = ls.size) (hown : s.vm.findClass own = some m.cls) {index : Nat} (hlink : (Cond.methodLink own index arraycopyName).before args s = true) (hnat : (Cond.native arraycopyName).before args s = true) (hstat : (Cond.static arraycopyName).before args s = true) (hini : (Cond.initialized "java/lang/System").before args s = true)
    (hTs : ∀ w ∈ Ts, va_Nw w s) (hKC : ab_KC D cl s) (hKA : ab_KA dA aty s) (hOO : ab_OO B od cl oo s s.heap) (hsb : ∀ t ci, (t, ci) ∈ sb → ∃ (E : String) (r : vw_C), aty[t]? = some (.object E) ∧ cl[ci]? = some r ∧ (r.1 = E ∨ Cond.castable r.1 E ∈ Ts)) (hR : ab_R B od D dA cl NC NS s.heap n0 z0 h H locs cells slots)
    {t N0 N1 j0 j1 : Nat} {f g : Nat → Value} {sp dp n : Int32} {r : List Value} (h0 : h[j0]? = some (.inl (t, N0, f))) (h1 : h[j1]? = some (.inl (t, N1, g))) (hok : ab_cpok aty sb oo h t N0 N1 f sp dp n)
    (hframes : 1 ≤ R.frames) (hlocals : (r.map fun v => v.category).sum + (nativeFrameWords "java/lang/System" "arraycopy" 5 + 11) ≤ R.locals) (hdg : decode cc pc = .ok (.invokestatic index, 3))
    (k : ∀ (H1 : Heap) (locs1 : List Loc), ab_R B od D dA cl NC NS s.heap n0 z0 (h.set j1 (.inl (t, N1, va_cpy f g sp.toNatClampNeg dp.toNatClampNeg n.toNatClampNeg))) H1 locs1 cells slots → W p l e R s m args below meth c H1 locs1 cells slots Q (F0 m (pc + 3) ls r)) :
    W p l e R s m args below meth c H locs cells slots Q (F0 m pc ls (.int n :: .int dp :: .ref (B + j1) :: .int sp :: .ref (B + j0) :: r)) := by
  have nn : ∀ z : Int32, ¬ z < 0 → z.toInt = (z.toNatClampNeg : Int) := by
    intro z hz
    have hz0 : (0 : Int) ≤ z.toInt := by
      have := Int32.not_lt.mp hz
      simpa using Int32.le_iff_toInt_le.mp this
    show z.toInt = ((z.toInt.toNat : Nat) : Int)
    omega
  obtain ⟨g1, g2, g3, g4, g5, ty, hty, hel⟩ := hok
  intro T hT X
  have hc0 : H[B + j0]? = some (arrV (dA t) N0 (fun q => ab_v B od (f q))) := hR.1 j0 _ h0
  have hc1 : H[B + j1]? = some (arrV (dA t) N1 (fun q => ab_v B od (g q))) := hR.1 j1 _ h1
  obtain ⟨-, k0, hk0, cm0, hkk0⟩ := (hKA t ty hty).1 N0 (fun q => ab_v B od (f q))
  obtain ⟨vm', X', step⟩ := X.arraycopy hx hown hlink hnat hstat hini (src := B + j0) (dst := B + j1) (cs := arrV (dA t) N0 (fun q => ab_v B od (f q))) (cd := arrV (dA t) N1 (fun q => ab_v B od (g q))) (srcPos := sp) (destPos := dp) (n := n) (by rw [hT]; exact hc0) (by rw [hT]; exact hc1)
    (fun _ h => by cases h) (fun _ h => by cases h) (fun h => by cases h) (fun h => by cases h) hk0 hk0 hkk0 hkk0 (by simp) g1 g2 g3
    (by rw [nn sp g1, nn n g3, arrV_size]; omega)
    (by rw [nn dp g2, nn n g3, arrV_size]; omega)
    (fun vm₁ hal i hi => by
      have e : (arrV (dA t) N0 (fun q => ab_v B od (f q))).slots.getD (sp.toNatClampNeg + i) .null = ab_v B od (f (sp.toNatClampNeg + i)) := by
        rw [Array.getD_eq_getD_getElem?, arrV_read _ _ (by omega)]
        rfl
      rw [e]
      have hv := hel i hi
      generalize f (sp.toNatClampNeg + i) = v at hv
      unfold ab_el at hv
      split at hv
      · exact ⟨hv, trivial⟩
      · exact ⟨rfl, trivial⟩
      · rename_i C q
        split at hv
        · rename_i ci fs hq
          obtain ⟨r2, hr2, cell, q1, q2, q3, q4⟩ := hR.1 q _ hq
          obtain ⟨⟨kC, hkC⟩, ⟨kE, hkE⟩, ha⟩ := ab_takes hTs hKC hKA hsb (List.contains_iff_mem.mp hv) (cellV := cell) (fun r hr => by cases hr.symm.trans hr2; rw [q2]; exact (hKC ci _ hr2).1.2.1) hk0 hkk0
          obtain ⟨kC', hkC', -⟩ := hal.2.2 _ _ hkC
          obtain ⟨kE', hkE', -⟩ := hal.2.2 _ _ hkE
          refine ⟨rfl, cell, (show T.heap[B + q]? = some cell by rw [hT]; exact q1), (fun z hz => by rw [q3] at hz; cases hz), ⟨kC', hkC'⟩, ⟨kE', hkE'⟩, ?_⟩
          show vm₁.assignable _ _ = true
          rw [hal.assignable]
          exact ha
        · cases hv
      · rename_i C w
        split at hv
        · rename_i ci fs hw
          obtain ⟨r1, hr1, hO, -⟩ := hOO _ _ _ hw
          obtain ⟨cell, o1, o2, o3, -⟩ := hO.kept hR.2.2.1.2.1
          obtain ⟨⟨kC, hkC⟩, ⟨kE, hkE⟩, ha⟩ := ab_takes hTs hKC hKA hsb (List.contains_iff_mem.mp hv) (cellV := cell) (fun r hr => by cases hr.symm.trans hr1; exact o3) hk0 hkk0
          obtain ⟨kC', hkC', -⟩ := hal.2.2 _ _ hkC
          obtain ⟨kE', hkE', -⟩ := hal.2.2 _ _ hkE
          refine ⟨rfl, cell, (show T.heap[od w.toNat]? = some cell by rw [hT]; exact o1), (fun z hz => by rw [hz] at o2; cases o2), ⟨kC', hkC'⟩, ⟨kE', hkE'⟩, ?_⟩
          show vm₁.assignable _ _ = true
          rw [hal.assignable]
          exact ha
        · cases hv
      · cases hv)
    (g := F0 m pc ls (.int n :: .int dp :: .ref (B + j1) :: .int sp :: .ref (B + j0) :: r)) rfl (by rw [hml]) (rest := r) rfl (by rw [hb]; exact hdg) hframes (by show 2 * 0 + _ + _ ≤ _; omega)
  have e1 : copied (arrV (dA t) N0 (fun q => ab_v B od (f q))) (arrV (dA t) N1 (fun q => ab_v B od (g q))) sp dp n = arrV (dA t) N1 (fun q => ab_v B od (va_cpy f g sp.toNatClampNeg dp.toNatClampNeg n.toNatClampNeg q)) := va_copied (ab_v B od) (dA t) (dA t) f g g4
  rw [e1] at X' step
  have hl : B + j1 < H.size := (Array.getElem?_eq_some_iff.mp hc1).1
  generalize hH1 : H.setIfInBounds (B + j1) (arrV (dA t) N1 (fun q => ab_v B od (va_cpy f g sp.toNatClampNeg dp.toNatClampNeg n.toNatClampNeg q))) = H1
  have hheap : ((T.setVm vm').setCell (B + j1) (arrV (dA t) N1 (fun q => ab_v B od (va_cpy f g sp.toNatClampNeg dp.toNatClampNeg n.toNatClampNeg q)))).heap = H1 := by rw [← hH1, ← hT]; rfl
  have oq : ∀ q : Nat, q ≠ B + j1 → H1[q]? = H[q]? := fun q hq => by rw [← hH1]; simp [Array.getElem?_setIfInBounds, Ne.symm hq]
  have hself : H1[B + j1]? = some (arrV (dA t) N1 (fun q => ab_v B od (va_cpy f g sp.toNatClampNeg dp.toNatClampNeg n.toNatClampNeg q))) := by rw [← hH1]; simp [Array.getElem?_setIfInBounds, hl]
  have hsz : H1.size = H.size := by rw [← hH1]; simp
  have hR1 : ab_R B od D dA cl NC NS s.heap n0 z0 (h.set j1 (.inl (t, N1, va_cpy f g sp.toNatClampNeg dp.toNatClampNeg n.toNatClampNeg))) H1 (locs ++ ((arrV (dA t) N0 (fun q => ab_v B od (f q))).stretch sp.toNatClampNeg n.toNatClampNeg).zipIdx.map fun q => ⟨B + j1, dp.toNatClampNeg + q.2⟩) cells slots := by
    obtain ⟨w1, w2, w3, w4⟩ := hR.set (i := 0) (x := .inl (t, N1, va_cpy f g sp.toNatClampNeg dp.toNatClampNeg n.toNatClampNeg)) h1 rfl hself hsz oq
    refine ⟨w1, w2, ⟨w3.1, w3.2.1, fun q hq => ?_⟩, w4⟩
    rcases List.mem_append.mp hq with z | z
    · exact hR.2.2.1.2.2 q z
    · obtain ⟨y, -, hy⟩ := List.mem_map.mp z
      rw [← hy]
      exact Nat.le_add_right _ _
  obtain ⟨t', a1, b1⟩ := k H1 _ hR1 _ hheap X'
  exact ⟨t', step t' a1, b1⟩
end AB8
