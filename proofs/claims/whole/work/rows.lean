section
/-! AN ABSTRACT MACHINE. Its heap is a list of cells, counted from the first that the law makes; a reference is a place in that list. Old cells (the script, constants) are named by floats, which the program doesn't use. -/
abbrev ab_E : Type := (Nat × Nat × (Nat → Value)) ⊕ (Nat × List Value)
abbrev ab_H : Type := List ab_E
abbrev ab_L : Type := List (Nat × Value)
def ab_v (B : Nat) (od : Nat → Nat) (v : Value) : Value := match v with
  | .ref j => .ref (B + j)
  | .float w => .ref (od w.toNat)
  | v => v
theorem ab_v_cat (B : Nat) (od : Nat → Nat) (v : Value) : (ab_v B od v).category = v.category := by cases v <;> rfl
/-- a cell stands for an abstract one -/
def ab_c (B : Nat) (od : Nat → Nat) (D : va_G) (dA : Nat → ClassId) (cl : List vw_C) (k : Nat) (x : ab_E) (H : Heap) : Prop := match x with
  | .inl (t, n, f) => H[B + k]? = some (arrV (dA t) n (fun j => ab_v B od (f j)))
  | .inr (ci, fs) => ∃ r : vw_C, cl[ci]? = some r ∧ t_OB (B + k) (D.1 ci) r.2.2 (D.2 ci) H (vp_V (fs.map (ab_v B od)))
theorem ab_c.kept {B : Nat} {od : Nat → Nat} {D : va_G} {dA : Nat → ClassId} {cl : List vw_C} {k : Nat} {x : ab_E} {H H1 : Heap} (h : ab_c B od D dA cl k x H) (hq : H1[B + k]? = H[B + k]?) : ab_c B od D dA cl k x H1 := by
  rcases x with ⟨t, n, f⟩ | ⟨ci, fs⟩
  · exact hq.trans h
  · obtain ⟨r, h1, h2⟩ := h
    exact ⟨r, h1, h2.kept hq⟩
def ab_sz1 (x : ab_E) : Nat := match x with
  | .inl (_, n, _) => n
  | .inr (_, fs) => fs.length
def ab_sz (h : ab_H) : Nat := (h.map ab_sz1).sum
theorem ab_sz_push (h : ab_H) (x : ab_E) : ab_sz (h ++ [x]) = ab_sz h + ab_sz1 x := by simp [ab_sz]
/-- the heap stands for an abstract one; nothing below B has changed since H0; so many cells and slots have come since the activation began (n0, z0 were there) -/
def ab_R (B : Nat) (od : Nat → Nat) (D : va_G) (dA : Nat → ClassId) (cl : List vw_C) (NC NS : Nat) (H0 : Heap) (n0 z0 : Nat) (h : ab_H) (H : Heap) (locs : List Loc) (cells slots : Nat) : Prop :=
  (∀ (k : Nat) (x : ab_E), h[k]? = some x → ab_c B od D dA cl k x H) ∧ H.size = B + h.length ∧ va_S (fun q => B ≤ q) H0 H locs ∧ h.length = n0 + cells ∧ ab_sz h = z0 + slots ∧ h.length ≤ NC ∧ ab_sz h ≤ NS
theorem ab_R.set {B : Nat} {od : Nat → Nat} {D : va_G} {dA : Nat → ClassId} {cl : List vw_C} {NC NS : Nat} {H0 : Heap} {n0 z0 : Nat} {h : ab_H} {H H1 : Heap} {locs : List Loc} {cells slots k i : Nat} {x0 x : ab_E}
    (hR : ab_R B od D dA cl NC NS H0 n0 z0 h H locs cells slots) (hk : h[k]? = some x0) (hz : ab_sz1 x = ab_sz1 x0) (hx : ab_c B od D dA cl k x H1) (zs : H1.size = H.size) (oq : ∀ q : Nat, q ≠ B + k → H1[q]? = H[q]?) :
    ab_R B od D dA cl NC NS H0 n0 z0 (h.set k x) H1 (locs ++ [⟨B + k, i⟩]) cells slots := by
  obtain ⟨h1, h2, h3, h4, h5, h6, h7⟩ := hR
  have hl := (List.getElem?_eq_some_iff.mp hk).1
  refine ⟨fun j y hj => ?_, by rw [zs, h2, List.length_set], h3.put zs oq (Nat.le_add_right _ _), by rw [List.length_set]; exact h4, ?_⟩
  · by_cases hjk : j = k
    · subst hjk
      rw [List.getElem?_set_self hl] at hj
      cases hj
      exact hx
    · rw [List.getElem?_set_ne (Ne.symm hjk)] at hj
      exact (h1 j y hj).kept (oq _ (by omega))
  · have e : ab_sz (h.set k x) = ab_sz h := by
      have e0 : (h.set k x).map ab_sz1 = h.map ab_sz1 := by
        rw [List.map_set, hz]
        have e1 : (h.map ab_sz1)[k]? = some (ab_sz1 x0) := by rw [List.getElem?_map, hk]; rfl
        apply List.ext_getElem?
        intro j
        by_cases hjk : j = k
        · subst hjk
          rw [List.getElem?_set_self (by simpa using hl), e1]
        · rw [List.getElem?_set_ne (Ne.symm hjk)]
      unfold ab_sz
      rw [e0]
    rw [e, List.length_set]; exact ⟨h5, h6, h7⟩
theorem ab_R.push {B : Nat} {od : Nat → Nat} {D : va_G} {dA : Nat → ClassId} {cl : List vw_C} {NC NS : Nat} {H0 : Heap} {n0 z0 : Nat} {h : ab_H} {H H1 : Heap} {locs : List Loc} {cells slots n : Nat} {x : ab_E}
    (hR : ab_R B od D dA cl NC NS H0 n0 z0 h H locs cells slots) (hz : ab_sz1 x = n) (hNC : h.length + 1 ≤ NC) (hNS : ab_sz h + n ≤ NS) (hx : ab_c B od D dA cl h.length x H1) (zs : H1.size = H.size + 1) (oq : ∀ q : Nat, q < H.size → H1[q]? = H[q]?) :
    ab_R B od D dA cl NC NS H0 n0 z0 (h ++ [x]) H1 locs (cells + 1) (slots + n) := by
  obtain ⟨h1, h2, h3, h4, h5, h6, h7⟩ := hR
  refine ⟨fun j y hj => ?_, by rw [zs, h2, List.length_append]; rfl, ⟨by rw [zs]; exact Nat.le_trans h3.1 (Nat.le_succ _), fun q a b => (oq q (Nat.lt_of_lt_of_le a h3.1)).trans (h3.2.1 q a b), h3.2.2⟩, by rw [List.length_append, h4]; rfl, by rw [ab_sz_push]; omega, by rw [List.length_append]; exact hNC, by rw [ab_sz_push]; omega⟩
  by_cases hl : j < h.length
  · rw [List.getElem?_append_left hl] at hj
    exact (h1 j y hj).kept (oq _ (by rw [h2]; omega))
  · rw [List.getElem?_append_right (by omega)] at hj
    have hj0 : j - h.length < 1 := (List.getElem?_eq_some_iff.mp hj).1
    have hj1 : j = h.length := by omega
    subst hj1
    rw [Nat.sub_self] at hj
    cases hj
    exact hx
/-- locals -/
def ab_get (L : ab_L) (i : Nat) : Option Value := (L.find? (fun q => q.1 == i)).map (fun q => q.2)
def ab_put1 (L : ab_L) (i : Nat) (v : Value) : ab_L := (i, v) :: L.filter (fun q => !(q.1 == i) && !(q.1 + 1 == i && q.2.category == 2))
def ab_put2 (L : ab_L) (i : Nat) (v : Value) : ab_L := (i, v) :: L.filter (fun q => !(q.1 == i) && (!(q.1 == i + 1) && !(q.1 + 1 == i && q.2.category == 2)))
def ab_m (B : Nat) (od : Nat → Nat) (L : ab_L) : ab_L := L.map (fun q => (q.1, ab_v B od q.2))
theorem ab_get_mem {L : ab_L} {i : Nat} {v : Value} (h : ab_get L i = some v) : (i, v) ∈ L := by
  unfold ab_get at h
  cases hf : L.find? (fun q => q.1 == i) with
  | none => rw [hf] at h; cases h
  | some q =>
    rw [hf] at h
    have h1 := List.mem_of_find?_eq_some hf
    have h2 := List.find?_some hf
    obtain ⟨a, b⟩ := q
    simp at h h2
    subst h2; subst h
    exact h1
theorem ab_at {B : Nat} {od : Nat → Nat} {L : ab_L} {i nL : Nat} {v : Value} {ls : Array Slot} (hl : lv_has ls nL (ab_m B od L)) (h : ab_get L i = some v) : ls[i]? = some (.val (ab_v B od v)) :=
  hl.2.2 (i, ab_v B od v) (List.mem_map.mpr ⟨(i, v), ab_get_mem h, rfl⟩)
theorem ab_m_put1 (B : Nat) (od : Nat → Nat) (L : ab_L) (i : Nat) (v : Value) : (i, ab_v B od v) :: (ab_m B od L).filter (fun q => !(q.1 == i) && !(q.1 + 1 == i && q.2.category == 2)) = ab_m B od (ab_put1 L i v) := by
  unfold ab_m ab_put1
  rw [List.filter_map, List.map_cons]
  congr 2
  apply List.filter_congr
  intro q _
  simp [ab_v_cat]
theorem ab_m_put2 (B : Nat) (od : Nat → Nat) (L : ab_L) (i : Nat) (v : Value) : (i, ab_v B od v) :: (ab_m B od L).filter (fun q => !(q.1 == i) && (!(q.1 == i + 1) && !(q.1 + 1 == i && q.2.category == 2))) = ab_m B od (ab_put2 L i v) := by
  unfold ab_m ab_put2
  rw [List.filter_map, List.map_cons]
  congr 2
  apply List.filter_congr
  intro q _
  simp [ab_v_cat]
end
section
/-- the length of an instruction (0: not one of those, or a switch) -/
def ab_len (i : Instr) : Nat := match i with
  | .iconst _ => 1
  | .bipush _ => 2
  | .sipush _ => 3
  | .lconst _ => 1
  | .aconst_null => 1
  | .iload_n _ => 1
  | .iload _ => 2
  | .lload_n _ => 1
  | .lload _ => 2
  | .aload_n _ => 1
  | .aload _ => 2
  | .istore_n _ => 1
  | .istore _ => 2
  | .lstore_n _ => 1
  | .lstore _ => 2
  | .astore_n _ => 1
  | .astore _ => 2
  | .iinc _ _ => 3
  | .iadd => 1
  | .isub => 1
  | .imul => 1
  | .iand => 1
  | .ior => 1
  | .ixor => 1
  | .ishl => 1
  | .ishr => 1
  | .iushr => 1
  | .ladd => 1
  | .lsub => 1
  | .lmul => 1
  | .lcmp => 1
  | .idiv => 1
  | .irem => 1
  | .ldiv => 1
  | .lrem => 1
  | .ineg => 1
  | .lneg => 1
  | .i2l => 1
  | .l2i => 1
  | .i2b => 1
  | .i2c => 1
  | .dup => 1
  | .pop => 1
  | .dup_x1 => 1
  | .dup_x2 => 1
  | .dup2 => 1
  | .ifCond _ _ => 3
  | .if_icmp _ _ => 3
  | .goto _ => 3
  | .ifnull _ => 3
  | .ifnonnull _ => 3
  | .getfield _ => 3
  | .putfield _ => 3
  | .getstatic _ => 3
  | .new _ => 3
  | .newarray _ => 2
  | .anewarray _ => 3
  | .checkcast _ => 3
  | .arraylength => 1
  | .iaload => 1
  | .baload => 1
  | .caload => 1
  | .laload => 1
  | .aaload => 1
  | .iastore => 1
  | .bastore => 1
  | .castore => 1
  | .lastore => 1
  | .aastore => 1
  | .invokevirtual _ => 3
  | .invokespecial _ => 3
  | .invokestatic _ => 3
  | .ireturn => 1
  | .lreturn => 1
  | .areturn => 1
  | .return_ => 1
  | .athrow => 1
  | .ldc _ => 2
  | .ldc_w _ => 3
  | .ldc2_w _ => 3
  | .if_acmp _ _ => 3
  | _ => 0
/-- where a branch goes -/
def ab_off (i : Instr) : Option Int := match i with
  | .ifCond _ off => some off
  | .if_icmp _ off => some off
  | .if_acmp _ off => some off
  | .goto off => some off
  | .ifnull off => some off
  | .ifnonnull off => some off
  | _ => none
/-- instructions that touch locals and stack alone -/
def ab_s1 (nL : Nat) (i : Instr) (pc tg : Nat) (L : ab_L) (S : List Value) : Option (Nat × ab_L × List Value) := match i with
  | .iconst n => some (pc + 1, L, .int (Int32.ofInt n) :: S)
  | .bipush n => some (pc + 2, L, .int (Int8.ofInt n).toInt32 :: S)
  | .sipush n => some (pc + 3, L, .int (Int16.ofInt n).toInt32 :: S)
  | .lconst n => some (pc + 1, L, .long (Int64.ofNat (n : Nat)) :: S)
  | .aconst_null => some (pc + 1, L, .null :: S)
  | .iload_n n => (match ab_get L n with | some (.int x) => some (pc + 1, L, .int x :: S) | _ => none)
  | .iload n => (match ab_get L n with | some (.int x) => some (pc + 2, L, .int x :: S) | _ => none)
  | .lload_n n => (match ab_get L n with | some (.long x) => some (pc + 1, L, .long x :: S) | _ => none)
  | .lload n => (match ab_get L n with | some (.long x) => some (pc + 2, L, .long x :: S) | _ => none)
  | .aload_n n => (match ab_get L n with | some (.ref x) => some (pc + 1, L, .ref x :: S) | some (.float x) => some (pc + 1, L, .float x :: S) | some .null => some (pc + 1, L, .null :: S) | _ => none)
  | .aload n => (match ab_get L n with | some (.ref x) => some (pc + 2, L, .ref x :: S) | some (.float x) => some (pc + 2, L, .float x :: S) | some .null => some (pc + 2, L, .null :: S) | _ => none)
  | .istore_n n => (match S with | .int x :: r => if (n : Nat) < nL then some (pc + 1, ab_put1 L n (.int x), r) else none | _ => none)
  | .istore n => (match S with | .int x :: r => if (n : Nat) < nL then some (pc + 2, ab_put1 L n (.int x), r) else none | _ => none)
  | .lstore_n n => (match S with | .long x :: r => if (n : Nat) + 1 < nL then some (pc + 1, ab_put2 L n (.long x), r) else none | _ => none)
  | .lstore n => (match S with | .long x :: r => if (n : Nat) + 1 < nL then some (pc + 2, ab_put2 L n (.long x), r) else none | _ => none)
  | .astore_n n => (match S with | .ref x :: r => if (n : Nat) < nL then some (pc + 1, ab_put1 L n (.ref x), r) else none | .float x :: r => if (n : Nat) < nL then some (pc + 1, ab_put1 L n (.float x), r) else none | .null :: r => if (n : Nat) < nL then some (pc + 1, ab_put1 L n .null, r) else none | _ => none)
  | .astore n => (match S with | .ref x :: r => if (n : Nat) < nL then some (pc + 2, ab_put1 L n (.ref x), r) else none | .float x :: r => if (n : Nat) < nL then some (pc + 2, ab_put1 L n (.float x), r) else none | .null :: r => if (n : Nat) < nL then some (pc + 2, ab_put1 L n .null, r) else none | _ => none)
  | .iinc n z => (match ab_get L n with | some (.int x) => if n < nL then some (pc + 3, ab_put1 L n (.int (x + Int32.ofInt z)), S) else none | _ => none)
  | .iadd => (match S with | .int y :: .int x :: r => some (pc + 1, L, .int (x + y) :: r) | _ => none)
  | .isub => (match S with | .int y :: .int x :: r => some (pc + 1, L, .int (x - y) :: r) | _ => none)
  | .imul => (match S with | .int y :: .int x :: r => some (pc + 1, L, .int (x * y) :: r) | _ => none)
  | .iand => (match S with | .int y :: .int x :: r => some (pc + 1, L, .int (x &&& y) :: r) | _ => none)
  | .ior => (match S with | .int y :: .int x :: r => some (pc + 1, L, .int (x ||| y) :: r) | _ => none)
  | .ixor => (match S with | .int y :: .int x :: r => some (pc + 1, L, .int (x ^^^ y) :: r) | _ => none)
  | .ishl => (match S with | .int y :: .int x :: r => some (pc + 1, L, .int (x <<< (y &&& 31)) :: r) | _ => none)
  | .ishr => (match S with | .int y :: .int x :: r => some (pc + 1, L, .int (x >>> (y &&& 31)) :: r) | _ => none)
  | .iushr => (match S with | .int y :: .int x :: r => some (pc + 1, L, .int ((x.toUInt32 >>> (y.toUInt32 &&& Int32.toUInt32 31)).toInt32) :: r) | _ => none)
  | .ladd => (match S with | .long y :: .long x :: r => some (pc + 1, L, .long (x + y) :: r) | _ => none)
  | .lsub => (match S with | .long y :: .long x :: r => some (pc + 1, L, .long (x - y) :: r) | _ => none)
  | .lmul => (match S with | .long y :: .long x :: r => some (pc + 1, L, .long (x * y) :: r) | _ => none)
  | .lcmp => (match S with | .long y :: .long x :: r => some (pc + 1, L, .int (lg_cmp x y) :: r) | _ => none)
  | .idiv => (match S with | .int y :: .int x :: r => if y = 0 then none else some (pc + 1, L, .int (x / y) :: r) | _ => none)
  | .irem => (match S with | .int y :: .int x :: r => if y = 0 then none else some (pc + 1, L, .int (x - x / y * y) :: r) | _ => none)
  | .ldiv => (match S with | .long y :: .long x :: r => if y = 0 then none else some (pc + 1, L, .long (x / y) :: r) | _ => none)
  | .lrem => (match S with | .long y :: .long x :: r => if y = 0 then none else some (pc + 1, L, .long (x - x / y * y) :: r) | _ => none)
  | .ineg => (match S with | .int x :: r => some (pc + 1, L, .int (-x) :: r) | _ => none)
  | .lneg => (match S with | .long x :: r => some (pc + 1, L, .long (-x) :: r) | _ => none)
  | .i2l => (match S with | .int x :: r => some (pc + 1, L, .long (x.toInt64) :: r) | _ => none)
  | .l2i => (match S with | .long x :: r => some (pc + 1, L, .int (x.toInt32) :: r) | _ => none)
  | .i2b => (match S with | .int x :: r => some (pc + 1, L, .int (x.toInt8.toInt32) :: r) | _ => none)
  | .i2c => (match S with | .int x :: r => some (pc + 1, L, .int ((x.toUInt32 % 65536).toInt32) :: r) | _ => none)
  | .dup => (match S with | a :: r => if a.category = 1 then some (pc + 1, L, a :: a :: r) else none | _ => none)
  | .pop => (match S with | a :: r => if a.category = 1 then some (pc + 1, L, r) else none | _ => none)
  | .dup_x1 => (match S with | a :: b :: r => if a.category = 1 ∧ b.category = 1 then some (pc + 1, L, a :: b :: a :: r) else none | _ => none)
  | .dup_x2 => (match S with | a :: b :: d :: r => if a.category = 1 ∧ b.category = 1 ∧ d.category = 1 then some (pc + 1, L, a :: b :: d :: a :: r) else none | _ => none)
  | .dup2 => (match S with | a :: b :: r => if a.category = 1 ∧ b.category = 1 then some (pc + 1, L, a :: b :: a :: b :: r) else none | _ => none)
  | .ifCond .eq off => (match S with | .int x :: r => some (if x = 0 then tg else pc + 3, L, r) | _ => none)
  | .if_icmp .eq off => (match S with | .int y :: .int x :: r => some (if x = y then tg else pc + 3, L, r) | _ => none)
  | .ifCond .ne off => (match S with | .int x :: r => some (if x = 0 then pc + 3 else tg, L, r) | _ => none)
  | .if_icmp .ne off => (match S with | .int y :: .int x :: r => some (if x = y then pc + 3 else tg, L, r) | _ => none)
  | .ifCond .lt off => (match S with | .int x :: r => some (if x < 0 then tg else pc + 3, L, r) | _ => none)
  | .if_icmp .lt off => (match S with | .int y :: .int x :: r => some (if x < y then tg else pc + 3, L, r) | _ => none)
  | .ifCond .ge off => (match S with | .int x :: r => some (if 0 ≤ x then tg else pc + 3, L, r) | _ => none)
  | .if_icmp .ge off => (match S with | .int y :: .int x :: r => some (if y ≤ x then tg else pc + 3, L, r) | _ => none)
  | .ifCond .gt off => (match S with | .int x :: r => some (if 0 < x then tg else pc + 3, L, r) | _ => none)
  | .if_icmp .gt off => (match S with | .int y :: .int x :: r => some (if y < x then tg else pc + 3, L, r) | _ => none)
  | .ifCond .le off => (match S with | .int x :: r => some (if x ≤ 0 then tg else pc + 3, L, r) | _ => none)
  | .if_icmp .le off => (match S with | .int y :: .int x :: r => some (if x ≤ y then tg else pc + 3, L, r) | _ => none)
  | .goto off => some (tg, L, S)
  | .ifnull off => (match S with | .ref _ :: r => some (pc + 3, L, r) | .float _ :: r => some (pc + 3, L, r) | .null :: r => some (tg, L, r) | _ => none)
  | .ifnonnull off => (match S with | .ref _ :: r => some (tg, L, r) | .float _ :: r => some (tg, L, r) | .null :: r => some (pc + 3, L, r) | _ => none)
  | _ => none
section AB1
variable {p : Program} {l : Launch} {e : Env} {R : Room} {s : State} {m : MethodId} {args : Array Value} {below : List Frame} {meth : Method} {c : Code} {H : Heap} {locs : List Loc} {cells slots : Nat} {Q : State → Prop}
variable {cc : ByteArray} {pc pc' tg nL len B : Nat} {od : Nat → Nat} {L L' : ab_L} {S S' : List Value} {i : Instr} {ls : Array Slot}
set_option maxHeartbeats 4000000 in
theorem ab_s1_ok (hx : p.tables.exec = Jvm.exec) (hb : c.code = cc) (hdg : decode cc pc = .ok (i, len)) (hlen : ab_len i = 0 ∨ len = ab_len i) (htg0 : ∀ off, ab_off i = some off → (pc : Int) + off = (tg : Int))
    (hs : ab_s1 nL i pc tg L S = some (pc', L', S')) (hl : lv_has ls nL (ab_m B od L))
    (k : ∀ ls' : Array Slot, lv_has ls' nL (ab_m B od L') → W p l e R s m args below meth c H locs cells slots Q (F0 m pc' ls' (S'.map (ab_v B od)))) :
    W p l e R s m args below meth c H locs cells slots Q (F0 m pc ls (S.map (ab_v B od))) := by
  rcases hlen with hlen | hlen
  · cases i
    all_goals first | (simp only [ab_s1] at hs; cases hs; done) | (revert hlen; simp [ab_len]; done)
  subst hlen
  cases i
  case iconst n =>
    simp only [ab_s1] at hs
    cases hs
    exact lv_iconst hx hb hdg rfl (k ls hl)
  case bipush n =>
    simp only [ab_s1] at hs
    cases hs
    exact lv_bipush hx hb hdg rfl (k ls hl)
  case sipush n =>
    simp only [ab_s1] at hs
    cases hs
    exact lv_sipush hx hb hdg rfl (k ls hl)
  case lconst n =>
    simp only [ab_s1] at hs
    cases hs
    exact lv_lconst hx hb hdg rfl (k ls hl)
  case aconst_null =>
    simp only [ab_s1] at hs
    cases hs
    exact lv_null hx hb hdg (k ls hl)
  case iload_n n =>
    simp only [ab_s1] at hs
    split at hs
    · rename_i x hg
      cases hs
      exact lv_iload_n hx hb hdg rfl (ab_at hl hg) (k ls hl)
    · cases hs
  case iload n =>
    simp only [ab_s1] at hs
    split at hs
    · rename_i x hg
      cases hs
      exact lv_iload hx hb hdg (ab_at hl hg) (k ls hl)
    · cases hs
  case lload_n n =>
    simp only [ab_s1] at hs
    split at hs
    · rename_i x hg
      cases hs
      exact lv_lload_n hx hb hdg rfl (ab_at hl hg) (k ls hl)
    · cases hs
  case lload n =>
    simp only [ab_s1] at hs
    split at hs
    · rename_i x hg
      cases hs
      exact lv_lload hx hb hdg (ab_at hl hg) (k ls hl)
    · cases hs
  case aload_n n =>
    simp only [ab_s1] at hs
    split at hs
    · rename_i x hg
      cases hs
      exact lv_aload_n hx hb hdg rfl (ab_at hl hg) (k ls hl)
    · rename_i x hg
      cases hs
      exact lv_aload_n hx hb hdg rfl (ab_at hl hg) (k ls hl)
    · rename_i hg
      cases hs
      exact lv_aload_nN hx hb hdg rfl (ab_at hl hg) (k ls hl)
    · cases hs
  case aload n =>
    simp only [ab_s1] at hs
    split at hs
    · rename_i x hg
      cases hs
      exact lv_aload hx hb hdg (ab_at hl hg) (k ls hl)
    · rename_i x hg
      cases hs
      exact lv_aload hx hb hdg (ab_at hl hg) (k ls hl)
    · rename_i hg
      cases hs
      exact lv_aloadN hx hb hdg (ab_at hl hg) (k ls hl)
    · cases hs
  case istore_n n =>
    simp only [ab_s1] at hs
    split at hs
    · rename_i x r
      split at hs
      · rename_i hn
        cases hs
        exact lv_istore_n hx hb hdg rfl hl hn (ab_m_put1 B od L _ (.int x)) (fun ls' hl' => k ls' hl')
      · cases hs
    · cases hs
  case istore n =>
    simp only [ab_s1] at hs
    split at hs
    · rename_i x r
      split at hs
      · rename_i hn
        cases hs
        exact lv_istore hx hb hdg hl hn (ab_m_put1 B od L _ (.int x)) (fun ls' hl' => k ls' hl')
      · cases hs
    · cases hs
  case lstore_n n =>
    simp only [ab_s1] at hs
    split at hs
    · rename_i x r
      split at hs
      · rename_i hn
        cases hs
        exact lv_lstore_n hx hb hdg rfl hl hn (ab_m_put2 B od L _ (.long x)) (fun ls' hl' => k ls' hl')
      · cases hs
    · cases hs
  case lstore n =>
    simp only [ab_s1] at hs
    split at hs
    · rename_i x r
      split at hs
      · rename_i hn
        cases hs
        exact lv_lstore hx hb hdg hl hn (ab_m_put2 B od L _ (.long x)) (fun ls' hl' => k ls' hl')
      · cases hs
    · cases hs
  case astore_n n =>
    simp only [ab_s1] at hs
    split at hs
    · rename_i x r
      split at hs
      · rename_i hn
        cases hs
        exact lv_astore_n hx hb hdg rfl hl hn (ab_m_put1 B od L _ (.ref x)) (fun ls' hl' => k ls' hl')
      · cases hs
    · rename_i x r
      split at hs
      · rename_i hn
        cases hs
        exact lv_astore_n hx hb hdg rfl hl hn (ab_m_put1 B od L _ (.float x)) (fun ls' hl' => k ls' hl')
      · cases hs
    · rename_i r
      split at hs
      · rename_i hn
        cases hs
        exact lv_astore_nN hx hb hdg rfl hl hn (ab_m_put1 B od L _ .null) (fun ls' hl' => k ls' hl')
      · cases hs
    · cases hs
  case astore n =>
    simp only [ab_s1] at hs
    split at hs
    · rename_i x r
      split at hs
      · rename_i hn
        cases hs
        exact lv_astore hx hb hdg hl hn (ab_m_put1 B od L _ (.ref x)) (fun ls' hl' => k ls' hl')
      · cases hs
    · rename_i x r
      split at hs
      · rename_i hn
        cases hs
        exact lv_astore hx hb hdg hl hn (ab_m_put1 B od L _ (.float x)) (fun ls' hl' => k ls' hl')
      · cases hs
    · rename_i r
      split at hs
      · rename_i hn
        cases hs
        exact lv_astoreN hx hb hdg hl hn (ab_m_put1 B od L _ .null) (fun ls' hl' => k ls' hl')
      · cases hs
    · cases hs
  case iinc n z =>
    simp only [ab_s1] at hs
    split at hs
    · rename_i x hg
      split at hs
      · rename_i hn
        cases hs
        obtain ⟨j, hj⟩ := List.getElem?_of_mem (List.mem_map.mpr ⟨(n, Value.int x), ab_get_mem hg, rfl⟩ : (n, ab_v B od (.int x)) ∈ ab_m B od L)
        exact lv_iinc (x := x) hx hb hdg hl hj rfl hn (ab_m_put1 B od L n (.int (x + Int32.ofInt z))) (fun ls' hl' => k ls' hl')
      · cases hs
    · cases hs
  case iadd =>
    simp only [ab_s1] at hs
    split at hs
    · rename_i y x r
      cases hs
      exact lv_iadd hx hb hdg (k ls hl)
    · cases hs
  case isub =>
    simp only [ab_s1] at hs
    split at hs
    · rename_i y x r
      cases hs
      exact lv_isub hx hb hdg (k ls hl)
    · cases hs
  case imul =>
    simp only [ab_s1] at hs
    split at hs
    · rename_i y x r
      cases hs
      exact lv_imul hx hb hdg (k ls hl)
    · cases hs
  case iand =>
    simp only [ab_s1] at hs
    split at hs
    · rename_i y x r
      cases hs
      exact lv_iand hx hb hdg (k ls hl)
    · cases hs
  case ior =>
    simp only [ab_s1] at hs
    split at hs
    · rename_i y x r
      cases hs
      exact lv_ior hx hb hdg (k ls hl)
    · cases hs
  case ixor =>
    simp only [ab_s1] at hs
    split at hs
    · rename_i y x r
      cases hs
      exact lv_ixor hx hb hdg (k ls hl)
    · cases hs
  case ishl =>
    simp only [ab_s1] at hs
    split at hs
    · rename_i y x r
      cases hs
      exact lv_ishl hx hb hdg (k ls hl)
    · cases hs
  case ishr =>
    simp only [ab_s1] at hs
    split at hs
    · rename_i y x r
      cases hs
      exact lv_ishr hx hb hdg (k ls hl)
    · cases hs
  case iushr =>
    simp only [ab_s1] at hs
    split at hs
    · rename_i y x r
      cases hs
      exact lv_iushr hx hb hdg rfl (k ls hl)
    · cases hs
  case ladd =>
    simp only [ab_s1] at hs
    split at hs
    · rename_i y x r
      cases hs
      exact lv_ladd hx hb hdg (k ls hl)
    · cases hs
  case lsub =>
    simp only [ab_s1] at hs
    split at hs
    · rename_i y x r
      cases hs
      exact lv_lsub hx hb hdg (k ls hl)
    · cases hs
  case lmul =>
    simp only [ab_s1] at hs
    split at hs
    · rename_i y x r
      cases hs
      exact lv_lmul hx hb hdg (k ls hl)
    · cases hs
  case lcmp =>
    simp only [ab_s1] at hs
    split at hs
    · rename_i y x r
      cases hs
      exact W.lcmp hx hb hdg (k ls hl)
    · cases hs
  case idiv =>
    simp only [ab_s1] at hs
    split at hs
    · rename_i y x r
      split at hs
      · cases hs
      · rename_i hn
        cases hs
        exact lv_idiv hx hb hdg hn (k ls hl)
    · cases hs
  case irem =>
    simp only [ab_s1] at hs
    split at hs
    · rename_i y x r
      split at hs
      · cases hs
      · rename_i hn
        cases hs
        exact lv_irem hx hb hdg hn (k ls hl)
    · cases hs
  case ldiv =>
    simp only [ab_s1] at hs
    split at hs
    · rename_i y x r
      split at hs
      · cases hs
      · rename_i hn
        cases hs
        exact lv_ldiv hx hb hdg hn (k ls hl)
    · cases hs
  case lrem =>
    simp only [ab_s1] at hs
    split at hs
    · rename_i y x r
      split at hs
      · cases hs
      · rename_i hn
        cases hs
        exact lv_lrem hx hb hdg hn (k ls hl)
    · cases hs
  case ineg =>
    simp only [ab_s1] at hs
    split at hs
    · rename_i x r
      cases hs
      exact lv_ineg hx hb hdg (k ls hl)
    · cases hs
  case lneg =>
    simp only [ab_s1] at hs
    split at hs
    · rename_i x r
      cases hs
      exact lv_lneg hx hb hdg (k ls hl)
    · cases hs
  case i2l =>
    simp only [ab_s1] at hs
    split at hs
    · rename_i x r
      cases hs
      exact lv_i2l hx hb hdg rfl (k ls hl)
    · cases hs
  case l2i =>
    simp only [ab_s1] at hs
    split at hs
    · rename_i x r
      cases hs
      exact lv_l2i hx hb hdg rfl (k ls hl)
    · cases hs
  case i2b =>
    simp only [ab_s1] at hs
    split at hs
    · rename_i x r
      cases hs
      exact lv_i2b hx hb hdg rfl (k ls hl)
    · cases hs
  case i2c =>
    simp only [ab_s1] at hs
    split at hs
    · rename_i x r
      cases hs
      exact lv_i2c hx hb hdg rfl (k ls hl)
    · cases hs
  case dup =>
    simp only [ab_s1] at hs
    split at hs
    · rename_i a r
      split at hs
      · rename_i hc
        have w0 := hc
        cases hs
        exact lv_dup hx hb hdg (by rw [ab_v_cat]; exact w0) (k ls hl)
      · cases hs
    · cases hs
  case pop =>
    simp only [ab_s1] at hs
    split at hs
    · rename_i a r
      split at hs
      · rename_i hc
        have w0 := hc
        cases hs
        exact lv_pop hx hb hdg (by rw [ab_v_cat]; exact w0) (k ls hl)
      · cases hs
    · cases hs
  case dup_x1 =>
    simp only [ab_s1] at hs
    split at hs
    · rename_i a b r
      split at hs
      · rename_i hc
        obtain ⟨w0, w1⟩ := hc
        cases hs
        exact lv_dup_x1 hx hb hdg (by rw [ab_v_cat]; exact w0) (by rw [ab_v_cat]; exact w1) (k ls hl)
      · cases hs
    · cases hs
  case dup_x2 =>
    simp only [ab_s1] at hs
    split at hs
    · rename_i a b d r
      split at hs
      · rename_i hc
        obtain ⟨w0, w1, w2⟩ := hc
        cases hs
        exact lv_dup_x2 hx hb hdg (by rw [ab_v_cat]; exact w0) (by rw [ab_v_cat]; exact w1) (by rw [ab_v_cat]; exact w2) (k ls hl)
      · cases hs
    · cases hs
  case dup2 =>
    simp only [ab_s1] at hs
    split at hs
    · rename_i a b r
      split at hs
      · rename_i hc
        obtain ⟨w0, w1⟩ := hc
        cases hs
        exact lv_dup2_11 hx hb hdg (by rw [ab_v_cat]; exact w0) (by rw [ab_v_cat]; exact w1) (k ls hl)
      · cases hs
    · cases hs
  case goto off =>
    have htg := htg0 _ rfl
    simp only [ab_s1] at hs
    cases hs
    exact lv_goto hx hb hdg htg (k ls hl)
  case ifnull off =>
    have htg := htg0 _ rfl
    simp only [ab_s1] at hs
    split at hs
    · rename_i x r
      cases hs
      exact lv_ifnull hx hb hdg (k ls hl)
    · rename_i x r
      cases hs
      exact lv_ifnull hx hb hdg (k ls hl)
    · rename_i r
      cases hs
      exact lv_ifnullN hx hb hdg htg (k ls hl)
    · cases hs
  case ifnonnull off =>
    have htg := htg0 _ rfl
    simp only [ab_s1] at hs
    split at hs
    · rename_i x r
      cases hs
      exact lv_ifnonnull hx hb hdg htg (k ls hl)
    · rename_i x r
      cases hs
      exact lv_ifnonnull hx hb hdg htg (k ls hl)
    · rename_i r
      cases hs
      exact lv_ifnonnullN hx hb hdg (k ls hl)
    · cases hs
  case ifCond cd off =>
    have htg := htg0 _ rfl
    cases cd
    case eq =>
      simp only [ab_s1] at hs
      split at hs
      · rename_i x r
        cases hs
        exact lv_if_eq hx hb hdg htg (fun hc => by have k1 := k ls hl; rw [if_pos hc] at k1; exact k1) (fun hc => by have k1 := k ls hl; rw [if_neg hc] at k1; exact k1)
      · cases hs
    case ne =>
      simp only [ab_s1] at hs
      split at hs
      · rename_i x r
        cases hs
        exact lv_if_ne hx hb hdg htg (fun hc => by have k1 := k ls hl; rw [if_neg hc] at k1; exact k1) (fun hc => by have k1 := k ls hl; rw [if_pos hc] at k1; exact k1)
      · cases hs
    case lt =>
      simp only [ab_s1] at hs
      split at hs
      · rename_i x r
        cases hs
        exact lv_if_lt hx hb hdg htg (fun hc => by have k1 := k ls hl; rw [if_pos hc] at k1; exact k1) (fun hc => by have k1 := k ls hl; rw [if_neg hc] at k1; exact k1)
      · cases hs
    case ge =>
      simp only [ab_s1] at hs
      split at hs
      · rename_i x r
        cases hs
        exact lv_if_ge hx hb hdg htg (fun hc => by have k1 := k ls hl; rw [if_pos hc] at k1; exact k1) (fun hc => by have k1 := k ls hl; rw [if_neg hc] at k1; exact k1)
      · cases hs
    case gt =>
      simp only [ab_s1] at hs
      split at hs
      · rename_i x r
        cases hs
        exact lv_if_gt hx hb hdg htg (fun hc => by have k1 := k ls hl; rw [if_pos hc] at k1; exact k1) (fun hc => by have k1 := k ls hl; rw [if_neg hc] at k1; exact k1)
      · cases hs
    case le =>
      simp only [ab_s1] at hs
      split at hs
      · rename_i x r
        cases hs
        exact lv_if_le hx hb hdg htg (fun hc => by have k1 := k ls hl; rw [if_pos hc] at k1; exact k1) (fun hc => by have k1 := k ls hl; rw [if_neg hc] at k1; exact k1)
      · cases hs
  case if_icmp cd off =>
    have htg := htg0 _ rfl
    cases cd
    case eq =>
      simp only [ab_s1] at hs
      split at hs
      · rename_i y x r
        cases hs
        exact lv_icmp_eq hx hb hdg htg (fun hc => by have k1 := k ls hl; rw [if_pos hc] at k1; exact k1) (fun hc => by have k1 := k ls hl; rw [if_neg hc] at k1; exact k1)
      · cases hs
    case ne =>
      simp only [ab_s1] at hs
      split at hs
      · rename_i y x r
        cases hs
        exact lv_icmp_ne hx hb hdg htg (fun hc => by have k1 := k ls hl; rw [if_neg hc] at k1; exact k1) (fun hc => by have k1 := k ls hl; rw [if_pos hc] at k1; exact k1)
      · cases hs
    case lt =>
      simp only [ab_s1] at hs
      split at hs
      · rename_i y x r
        cases hs
        exact lv_icmp_lt hx hb hdg htg (fun hc => by have k1 := k ls hl; rw [if_pos hc] at k1; exact k1) (fun hc => by have k1 := k ls hl; rw [if_neg hc] at k1; exact k1)
      · cases hs
    case ge =>
      simp only [ab_s1] at hs
      split at hs
      · rename_i y x r
        cases hs
        exact lv_icmp_ge hx hb hdg htg (fun hc => by have k1 := k ls hl; rw [if_pos hc] at k1; exact k1) (fun hc => by have k1 := k ls hl; rw [if_neg hc] at k1; exact k1)
      · cases hs
    case gt =>
      simp only [ab_s1] at hs
      split at hs
      · rename_i y x r
        cases hs
        exact lv_icmp_gt hx hb hdg htg (fun hc => by have k1 := k ls hl; rw [if_pos hc] at k1; exact k1) (fun hc => by have k1 := k ls hl; rw [if_neg hc] at k1; exact k1)
      · cases hs
    case le =>
      simp only [ab_s1] at hs
      split at hs
      · rename_i y x r
        cases hs
        exact lv_icmp_le hx hb hdg htg (fun hc => by have k1 := k ls hl; rw [if_pos hc] at k1; exact k1) (fun hc => by have k1 := k ls hl; rw [if_neg hc] at k1; exact k1)
      · cases hs
  all_goals (simp only [ab_s1] at hs; cases hs)
end AB1
end
section
/-! the heap's instructions -/
/-- an entry of a class's pool: kind, two numbers, a value. 0 field (class, field); 1 method (number); 2 class (number in cl); 3 constant; 4 static; 5 Object's constructor; 6 array class (place in aty); 7 String constant -/
abbrev ab_N : Type := Nat × Nat × Nat × Value
/-- what a field of this type may hold -/
def ab_ft (ty : FieldType) (v : Value) : Bool := match ty, v with
  | .int, .int _ => true
  | .long, .long _ => true
  | .boolean, .int x => x == 0 || x == 1
  | .object _, .ref _ => true
  | .object _, .float _ => true
  | .object _, .null => true
  | .array _, .ref _ => true
  | .array _, .float _ => true
  | .array _, .null => true
  | _, _ => false
theorem ab_ft_ok {B : Nat} {od : Nat → Nat} {ty : FieldType} {v : Value} (h : ab_ft ty v = true) : narrow ty (ab_v B od v) = ab_v B od v ∧ fits ty (ab_v B od v) = true := by
  cases ty <;> cases v <;> first | (exfalso; revert h; simp [ab_ft]; done) | exact ⟨rfl, rfl⟩ | skip
  all_goals
    simp [ab_ft] at h
    rcases h with rfl | rfl
    · show narrow .boolean (.int 0) = .int 0 ∧ fits .boolean (.int 0) = true
      decide
    · show narrow .boolean (.int 1) = .int 1 ∧ fits .boolean (.int 1) = true
      decide
/-- an index is in range -/
def ab_ix (x : Int32) (n : Nat) : Bool := !(decide (x < 0)) && decide (x.toNatClampNeg < n)
theorem ab_ix_in {x : Int32} {n : Nat} (h : ab_ix x n = true) : ¬ (x < 0 ∨ n ≤ x.toNatClampNeg) := by
  simp [ab_ix] at h
  intro q
  rcases q with q | q
  · exact absurd q (by have := h.1; simpa using this)
  · omega
def ab_ald (aty : List FieldType) (oa : Nat → Option (FieldType × Nat × (Nat → Value))) (ty : FieldType) (pc : Nat) (S : List Value) (h : ab_H) : Option (Nat × List Value × ab_H) := match S with
  | .int x :: .ref j :: r => (match h[j]? with
    | some (.inl (t, n, f)) => if aty[t]? = some ty ∧ ab_ix x n = true then some (pc + 1, f x.toNatClampNeg :: r, h) else none
    | _ => none)
  | .int x :: .float w :: r => (match oa w.toNat with
    | some (t, n, f) => if t = ty ∧ ab_ix x n = true then some (pc + 1, f x.toNatClampNeg :: r, h) else none
    | _ => none)
  | _ => none
def ab_isR (ty : FieldType) : Bool := match ty with
  | .object _ => true
  | _ => false
def ab_s2 (cl : List vw_C) (ct : Nat → Nat → FieldType) (cd : Nat → List Value) (aty : List FieldType) (oa : Nat → Option (FieldType × Nat × (Nat → Value))) (NC NS : Nat) (pl : Nat → Option ab_N) (ini : Bool) (i : Instr) (pc : Nat) (S : List Value) (h : ab_H) : Option (Nat × List Value × ab_H) := match i with
  | .getfield x => (match pl x, S with
    | some (k0, a, b, _), .ref j :: r => (match h[j]? with
      | some (.inr (ci, fs)) => if (k0 = 0 ∨ k0 = 8) ∧ ci = a then (match fs[b]? with | some v => some (pc + 3, v :: r, h) | none => none) else none
      | _ => none)
    | _, _ => none)
  | .putfield x => (match pl x, S with
    | some (k0, a, b, fl), v :: .ref j :: r => (match h[j]? with
      | some (.inr (ci, fs)) => if (k0 = 0 ∨ k0 = 8) ∧ ci = a ∧ b < fs.length ∧ ab_ft (ct ci b) v = true ∧ (((cl[ci]?).map (fun q => (q.2.1 b).2.2.2)) = some false ∨ (k0 = 0 ∧ ini = true ∧ fl = .int 1)) then some (pc + 3, r, h.set j (.inr (ci, fs.set b v))) else none
      | _ => none)
    | _, _ => none)
  | .iaload => ab_ald aty oa .int pc S h
  | .baload => ab_ald aty oa .byte pc S h
  | .caload => ab_ald aty oa .char pc S h
  | .laload => ab_ald aty oa .long pc S h
  | .aaload => (match S with
    | .int x :: .ref j :: r => (match h[j]? with
      | some (.inl (t, n, f)) => if (aty[t]?).map ab_isR = some true ∧ ab_ix x n = true then some (pc + 1, f x.toNatClampNeg :: r, h) else none
      | _ => none)
    | _ => none)
  | .arraylength => (match S with
    | .ref j :: r => (match h[j]? with
      | some (.inl (t, n, f)) => if t < aty.length then some (pc + 1, .int (Int32.ofNat n) :: r, h) else none
      | _ => none)
    | .float w :: r => (match oa w.toNat with
      | some (_, n, _) => some (pc + 1, .int (Int32.ofNat n) :: r, h)
      | _ => none)
    | _ => none)
  | .iastore => (match S with
    | .int y :: .int x :: .ref j :: r => (match h[j]? with
      | some (.inl (t, n, f)) => if aty[t]? = some .int ∧ ab_ix x n = true then some (pc + 1, r, h.set j (.inl (t, n, updV f x.toNatClampNeg (.int y)))) else none
      | _ => none)
    | _ => none)
  | .bastore => (match S with
    | .int y :: .int x :: .ref j :: r => (match h[j]? with
      | some (.inl (t, n, f)) => if aty[t]? = some .byte ∧ ab_ix x n = true then some (pc + 1, r, h.set j (.inl (t, n, updV f x.toNatClampNeg (.int y.toInt8.toInt32)))) else none
      | _ => none)
    | _ => none)
  | .lastore => (match S with
    | .long y :: .int x :: .ref j :: r => (match h[j]? with
      | some (.inl (t, n, f)) => if aty[t]? = some .long ∧ ab_ix x n = true then some (pc + 1, r, h.set j (.inl (t, n, updV f x.toNatClampNeg (.long y)))) else none
      | _ => none)
    | _ => none)
  | .newarray at_ => (match S with
    | .int x :: r => (match aty.findIdx? (fun q => q == newarray.typeOf at_) with
      | some t => if ¬ x < 0 ∧ x.toNatClampNeg ≤ 65536 ∧ h.length + 1 ≤ NC ∧ ab_sz h + x.toNatClampNeg ≤ NS ∧ at_ ≠ .float then some (pc + 2, .ref h.length :: r, h ++ [.inl (t, x.toNatClampNeg, fun _ => defaultValue (newarray.typeOf at_))]) else none
      | none => none)
    | _ => none)
  | .new x => (match pl x with
    | some (2, ci, _, _) => (match cl[ci]? with
      | some q => if h.length + 1 ≤ NC ∧ ab_sz h + q.2.2 ≤ NS then some (pc + 3, .ref h.length :: S, h ++ [.inr (ci, cd ci)]) else none
      | none => none)
    | _ => none)
  | .ldc x => (match pl x with
    | some (3, _, _, .int v) => some (pc + 2, .int v :: S, h)
    | some (7, _, _, .float w) => some (pc + 2, .float w :: S, h)
    | _ => none)
  | .ldc2_w x => (match pl x with
    | some (3, _, _, .long v) => some (pc + 3, .long v :: S, h)
    | _ => none)
  | _ => none
/-- what the words Ts say of an entry -/
def ab_pe (cl : List vw_C) (Ts : List Cond) (own : String) (x : Nat) (n : ab_N) : Prop := match n with
  | (0, a, b, fl) => ∃ (r : vw_C) (ref : String), cl[a]? = some r ∧ b < r.2.2 ∧ Cond.fieldLink own x ref (r.2.1 b).2.1 (r.2.1 b).2.2.1 ∈ Ts ∧ (ref = (r.2.1 b).1 ∨ Cond.sameField ref (r.2.1 b).1 (r.2.1 b).2.1 (r.2.1 b).2.2.1 ∈ Ts) ∧ (fl = .int 1 → (r.2.1 b).2.2.2 = true ∧ (r.2.1 b).1 = own)
  | (8, a, b, _) => ∃ (r : vw_C) (ref host : String), cl[a]? = some r ∧ b < r.2.2 ∧ Cond.fieldLinkNest own x ref (r.2.1 b).2.1 (r.2.1 b).2.2.1 host ∈ Ts ∧ (ref = (r.2.1 b).1 ∨ Cond.sameField ref (r.2.1 b).1 (r.2.1 b).2.1 (r.2.1 b).2.2.1 ∈ Ts)
  | (2, ci, _, _) => ∃ r : vw_C, cl[ci]? = some r ∧ Cond.classLink own x r.1 ∈ Ts ∧ Cond.instantiable r.1 r.2.2 ∈ Ts ∧ Cond.initialized r.1 ∈ Ts
  | (3, _, _, .int v) => Cond.constant own x v ∈ Ts
  | (3, _, _, .long v) => Cond.constantLong own x v ∈ Ts
  | _ => True
theorem ab_same {Ts : List Cond} {s : State} (hTs : ∀ w ∈ Ts, va_Nw w s) {ref O n d : String} (h : ref = O ∨ Cond.sameField ref O n d ∈ Ts) : ∀ z, s.fieldFound? O n d = some z → s.fieldFound? ref n d = some z := by
  intro z hz
  rcases h with rfl | h
  · exact hz
  · exact u_same (args := #[]) (va_Nw.use rfl (hTs _ h)) z hz
/-- the classes: what is fixed, and what the tables say -/
def ab_CS (cl : List vw_C) (ct : Nat → Nat → FieldType) (cd : Nat → List Value) : Prop := ∀ (ci : Nat) (r : vw_C), cl[ci]? = some r →
  (∀ k, k < r.2.2 → parseFieldDescriptor (r.2.1 k).2.2.1 = some (ct ci k)) ∧ (∀ a, a < r.2.2 → ∀ b, b < r.2.2 → a ≠ b → (r.2.1 a).2.1 ≠ (r.2.1 b).2.1) ∧ (∀ j, j < r.2.2 → defaultValue (ct ci j) = vp_V (cd ci) j) ∧ (cd ci).length = r.2.2 ∧ (∀ v ∈ cd ci, ∀ (B : Nat) (od : Nat → Nat), ab_v B od v = v)
def ab_KC (D : va_G) (cl : List vw_C) (s : State) : Prop := ∀ (ci : Nat) (r : vw_C), cl[ci]? = some r → u_Kn s r.1 r.2.1 r.2.2 (D.1 ci) (D.2 ci) ∧ ∀ (A : Array Value), ∀ w ∈ u_ws r.1 r.2.1 r.2.2, w.before A s = true
def ab_KA (dA : Nat → ClassId) (aty : List FieldType) (s : State) : Prop := ∀ (t : Nat) (ty : FieldType), aty[t]? = some ty → ArrOfT s (dA t) ty ∧ va_RA s (dA t) ty ∧ ((∃ x, newarray.typeOf x = ty) → (Cond.arrayClass ty).before #[] s = true)
def ab_OA (B : Nat) (od : Nat → Nat) (oa : Nat → Option (FieldType × Nat × (Nat → Value))) (s : State) (H : Heap) : Prop := ∀ (w : Nat) (t : FieldType) (n : Nat) (f : Nat → Value), oa w = some (t, n, f) → od w < B ∧ ∃ cell : Cell, H[od w]? = some cell ∧ s.isArrayOf cell t ∧ cell.vm ≠ .unknown ∧ (n ≤ cell.slots.size ∧ cell.slots.size.toInt32 = Int32.ofNat n) ∧ ∀ j, j < n → cell.slots[j]? = some (ab_v B od (f j))
section AB2
variable {p : Program} {l : Launch} {e : Env} {R : Room} {s : State} {m : MethodId} {args : Array Value} {below : List Frame} {meth : Method} {c : Code} {H : Heap} {locs : List Loc} {cells slots : Nat} {Q : State → Prop}
variable {cc : ByteArray} {pc pc' nL len B n0 z0 NC NS : Nat} {od : Nat → Nat} {S S' : List Value} {h h' : ab_H} {i : Instr} {ls : Array Slot} {own : String}
variable {D : va_G} {dA : Nat → ClassId} {cl : List vw_C} {ct : Nat → Nat → FieldType} {cd : Nat → List Value} {aty : List FieldType} {oa : Nat → Option (FieldType × Nat × (Nat → Value))} {pl : Nat → Option ab_N} {ini : Bool} {Ts : List Cond}
/-- an object's field is read -/
theorem ab_getf (hx : p.tables.exec = Jvm.exec) (hb : c.code = cc) (hown : s.vm.findClass own = some m.cls) (hTs : ∀ w ∈ Ts, va_Nw w s) (hKC : ab_KC D cl s) (hR : ab_R B od D dA cl NC NS s.heap n0 z0 h H locs cells slots)
    {x k0 a b j : Nat} {fl v : Value} {fs r : List Value} (hk0 : k0 = 0 ∨ k0 = 8) (hp : ab_pe cl Ts own x (k0, a, b, fl)) (hj : h[j]? = some (.inr (a, fs))) (hv : fs[b]? = some v) (hdg : decode cc pc = .ok (.getfield x, 3))
    (k : W p l e R s m args below meth c H locs cells slots Q (F0 m (pc + 3) ls (ab_v B od v :: r))) : W p l e R s m args below meth c H locs cells slots Q (F0 m pc ls (.ref (B + j) :: r)) := by
  obtain ⟨r1, hc1, cell, q1, q2, q3, q4⟩ := hR.1 j _ hj
  obtain ⟨hKn, hws⟩ := hKC a r1 hc1
  obtain ⟨hS, hfc, kC, hkC, hkind⟩ := hKn
  have hsl : ∀ (bb : Nat), bb < r1.2.2 → bb = b → ∃ (cf : Nat) (kf : Class) (fi : Nat) (f : Field), s.fieldFound? (r1.2.1 bb).1 (r1.2.1 bb).2.1 (r1.2.1 bb).2.2.1 = some (cf, kf, fi, f) ∧ f.isStatic = false ∧ cell.slots[f.slot]? = some (ab_v B od v) := by
    intro bb hbb e1
    subst e1
    obtain ⟨cf, kf, fi, f, hi, hsl⟩ := hS bb hbb
    refine ⟨cf, kf, fi, f, hi, (u_facts hfc hkC (u_lays (hws args) (fun w hw => hw) hbb) hi).1, ?_⟩
    rw [hsl, q4 bb hbb]
    simp [vp_V, hv]
  rcases hk0 with rfl | rfl
  · obtain ⟨r2, ref, hc2, hb2, hl2, hs2, -⟩ := hp
    cases hc1.symm.trans hc2
    obtain ⟨cf, kf, fi, f, hi, hst, hval⟩ := hsl b hb2 rfl
    exact W.getf hx hb hown (va_Nw.use rfl (hTs _ hl2)) (ab_same hTs hs2 _ hi) hst q1 (by rw [q3]; exact fun h => by cases h) hval rfl rfl hdg k
  · obtain ⟨r2, ref, host, hc2, hb2, hl2, hs2⟩ := hp
    cases hc1.symm.trans hc2
    obtain ⟨cf, kf, fi, f, hi, hst, hval⟩ := hsl b hb2 rfl
    exact va_Wgetf hx hb hown (va_Nw.use rfl (hTs _ hl2)) (ab_same hTs hs2 _ hi) hst q1 (by rw [q3]; exact fun h => by cases h) hval rfl rfl hdg k
theorem ab_putf (hx : p.tables.exec = Jvm.exec) (hb : c.code = cc) (hown : s.vm.findClass own = some m.cls) (hTs : ∀ w ∈ Ts, va_Nw w s) (hKC : ab_KC D cl s) (hCS : ab_CS cl ct cd) (hR : ab_R B od D dA cl NC NS s.heap n0 z0 h H locs cells slots) (hini : ini = true → meth.name = "<init>")
    {x k0 a b j : Nat} {fl v : Value} {fs r : List Value} (hk0 : k0 = 0 ∨ k0 = 8) (hp : ab_pe cl Ts own x (k0, a, b, fl)) (hj : h[j]? = some (.inr (a, fs))) (hbl : b < fs.length) (hft : ab_ft (ct a b) v = true)
    (hfin : ((cl[a]?).map (fun q => (q.2.1 b).2.2.2)) = some false ∨ (k0 = 0 ∧ ini = true ∧ fl = .int 1)) (hdg : decode cc pc = .ok (.putfield x, 3))
    (k : ∀ (H1 : Heap) (locs1 : List Loc), ab_R B od D dA cl NC NS s.heap n0 z0 (h.set j (.inr (a, fs.set b v))) H1 locs1 cells slots → W p l e R s m args below meth c H1 locs1 cells slots Q (F0 m (pc + 3) ls r)) : W p l e R s m args below meth c H locs cells slots Q (F0 m pc ls (ab_v B od v :: .ref (B + j) :: r)) := by
  obtain ⟨r1, hc1, cell, q1, q2, q3, q4⟩ := hR.1 j _ hj
  obtain ⟨hKn, hws⟩ := hKC a r1 hc1
  obtain ⟨c1, c2, c3, c4, -⟩ := hCS a r1 hc1
  have hKn2 := hKn
  obtain ⟨hS, hfc, kC, hkC, hkind⟩ := hKn
  obtain ⟨hn, hfit⟩ := ab_ft_ok (B := B) (od := od) hft
  have hap : ∀ x y, x < r1.2.2 → y < r1.2.2 → x ≠ y → (D.2 a) x ≠ (D.2 a) y := by
    intro x y hx hy hne
    obtain ⟨_, _, _, fa, hia, ea⟩ := hS x hx
    obtain ⟨_, _, _, fb, hib, eb⟩ := hS y hy
    rw [← ea, ← eb]
    refine u_apart (u_lays (hws args) (fun w hw => hw) hx) (u_lays (hws args) (fun w hw => hw) hy) hia hib ?_
    rw [(State.fieldFound?_type hia (c1 x hx)).1, (State.fieldFound?_type hib (c1 y hy)).1]
    exact c2 x hx y hy hne
  have fin : ∀ (hb2 : b < r1.2.2) (H1 : Heap), H1[B + j]? = some (cell.setSlot (D.2 a b) (ab_v B od v)) → H1.size = H.size → (∀ q, q ≠ B + j → H1[q]? = H[q]?) → ab_R B od D dA cl NC NS s.heap n0 z0 (h.set j (.inr (a, fs.set b v))) H1 (locs ++ [⟨B + j, D.2 a b⟩]) cells slots := by
    intro hb2 H1 e1 e2 e3
    refine hR.set hj (by simp [ab_sz1]) ⟨r1, hc1, ?_⟩ e2 e3
    refine t_OB.to (V := updV (vp_V (fs.map (ab_v B od))) b (ab_v B od v)) ⟨_, e1, q2, q3, t_set q4 hap hb2 _⟩ (fun jj _ => ?_)
    rw [vp_updV_set (by simpa using hbl), List.map_set]
  rcases hk0 with rfl | rfl
  · obtain ⟨r2, ref, hc2, hb2, hl2, hs2, hf2⟩ := hp
    cases hc1.symm.trans hc2
    obtain ⟨cf, kf, fi, f, hi, hsl⟩ := hS b hb2
    have hst := (u_facts hfc hkC (u_lays (hws args) (fun w hw => hw) hb2) hi).1
    have hlay := hws args _ (u_in_lay hb2)
    unfold u_lay at hlay
    rcases hfin with hfin | ⟨-, hi1, hf1⟩
    · have hff : (r1.2.1 b).2.2.2 = false := by rw [hc1] at hfin; simpa using hfin
      rw [if_neg (by rw [hff]; decide)] at hlay
      have h6 := u_store hfc hkC hkind hlay hi (c1 b hb2) hn hfit
      refine W.putK hx hb (f := f) ⟨hown, va_Nw.use rfl (hTs _ hl2), ⟨_, _, _, ab_same hTs hs2 _ hi⟩, hst⟩ (by rw [q2]; exact h6) q1 q3 (by rw [hsl]; exact k2_hasslot (q4 b hb2)) rfl rfl hdg fun H' e1 e2 e3 => ?_
      rw [hsl] at e1 ⊢
      exact k H' _ (fin hb2 H' e1 e2 e3)
    · obtain ⟨g1, g2⟩ := hf2 hf1
      rw [if_pos g1] at hlay
      have hcf : m.cls = cf := by
        obtain ⟨_, _, c', _, _, _, -, -, hf', -, -, -, hown2, -⟩ := Cond.laysFinal_spec hlay
        have e1 : c' = cf := by have := hi.symm.trans hf'; simp at this; exact this.1.symm
        rw [g2] at hown2
        rw [← e1]; exact Option.some.inj (hown.symm.trans hown2)
      have h6 := u_fits hfc hkC hkind (Or.inr hlay) hi (c1 b hb2) hn hfit
      refine W.putFinK hx hb hown (va_Nw.use rfl (hTs _ hl2)) (ab_same hTs hs2 _ hi) hst hcf (hini hi1) (by rw [q2]; exact h6) q1 q3 (by rw [hsl]; exact k2_hasslot (q4 b hb2)) rfl rfl hdg fun H' e1 e2 e3 => ?_
      rw [hsl] at e1 ⊢
      exact k H' _ (fin hb2 H' e1 e2 e3)
  · obtain ⟨r2, ref, host, hc2, hb2, hl2, hs2⟩ := hp
    cases hc1.symm.trans hc2
    obtain ⟨cf, kf, fi, f, hi, hsl⟩ := hS b hb2
    have hst := (u_facts hfc hkC (u_lays (hws args) (fun w hw => hw) hb2) hi).1
    have hlay := hws args _ (u_in_lay hb2)
    unfold u_lay at hlay
    have hfin : ((cl[a]?).map (fun q => (q.2.1 b).2.2.2)) = some false := by
      rcases hfin with h1 | ⟨h1, -⟩
      · exact h1
      · cases h1
    have hff : (r1.2.1 b).2.2.2 = false := by rw [hc1] at hfin; simpa using hfin
    rw [if_neg (by rw [hff]; decide)] at hlay
    have h6 := u_store hfc hkC hkind hlay hi (c1 b hb2) hn hfit
    refine va_WputK hx hb (f := f) hown (va_Nw.use rfl (hTs _ hl2)) (ab_same hTs hs2 _ hi) hst (by rw [q2]; exact h6) q1 q3 (by rw [hsl]; exact k2_hasslot (q4 b hb2)) rfl rfl hdg fun H' e1 e2 e3 => ?_
    rw [hsl] at e1 ⊢
    exact k H' _ (fin hb2 H' e1 e2 e3)
/-- an array of this activation's is read -/
theorem ab_arr (hKA : ab_KA dA aty s) (hR : ab_R B od D dA cl NC NS s.heap n0 z0 h H locs cells slots) {j t n : Nat} {f : Nat → Value} {ty : FieldType} (hj : h[j]? = some (.inl (t, n, f))) (ht : aty[t]? = some ty) :
    ∃ cell : Cell, H[B + j]? = some cell ∧ s.isArrayOf cell ty ∧ cell.vm ≠ .unknown ∧ (n ≤ cell.slots.size ∧ cell.slots.size.toInt32 = Int32.ofNat n) ∧ ∀ q, q < n → cell.slots[q]? = some (ab_v B od (f q)) := by
  have h1 : H[B + j]? = some (arrV (dA t) n (fun q => ab_v B od (f q))) := hR.1 j _ hj
  exact ⟨_, h1, (hKA t ty ht).1 n _, (fun q => by cases q), ⟨by rw [arrV_size]; exact Nat.le_refl _, by rw [arrV_size]⟩, fun q hq => arrV_read _ _ hq⟩
theorem ab_old (hOA : ab_OA B od oa s s.heap) (hR : ab_R B od D dA cl NC NS s.heap n0 z0 h H locs cells slots) {w n : Nat} {f : Nat → Value} {ty : FieldType} (hw : oa w = some (ty, n, f)) :
    ∃ cell : Cell, H[od w]? = some cell ∧ s.isArrayOf cell ty ∧ cell.vm ≠ .unknown ∧ (n ≤ cell.slots.size ∧ cell.slots.size.toInt32 = Int32.ofNat n) ∧ ∀ q, q < n → cell.slots[q]? = some (ab_v B od (f q)) := by
  obtain ⟨g1, cell, g2, g3⟩ := hOA w ty n f hw
  have g4 := (Array.getElem?_eq_some_iff.mp g2).1
  exact ⟨cell, (hR.2.2.1.2.1 (od w) g4 (by omega)).trans g2, g3⟩
theorem ab_ald_ok (hKA : ab_KA dA aty s) (hOA : ab_OA B od oa s s.heap) (hR : ab_R B od D dA cl NC NS s.heap n0 z0 h H locs cells slots) {ty : FieldType}
    (row : ∀ {a : Addr} {cell : Cell} {j : Int32} {v : Value} {r : List Value}, H[a]? = some cell → s.isArrayOf cell ty → cell.vm ≠ .unknown → ¬ (j < 0 ∨ cell.slots.size ≤ j.toNatClampNeg) → cell.slots[j.toNatClampNeg]? = some v →
      W p l e R s m args below meth c H locs cells slots Q (F0 m (pc + 1) ls (v :: r)) → W p l e R s m args below meth c H locs cells slots Q (F0 m pc ls (.int j :: .ref a :: r)))
    (hs : ab_ald aty oa ty pc S h = some (pc', S', h')) (k : h' = h → W p l e R s m args below meth c H locs cells slots Q (F0 m pc' ls (S'.map (ab_v B od)))) : W p l e R s m args below meth c H locs cells slots Q (F0 m pc ls (S.map (ab_v B od))) := by
  unfold ab_ald at hs
  split at hs
  · rename_i x j r
    split at hs
    · rename_i t n f hj
      split at hs
      · rename_i hc
        cases hs
        obtain ⟨cell, g1, g2, g3, g4, g5⟩ := ab_arr hKA hR hj hc.1
        have hin := ab_ix_in hc.2
        exact row g1 g2 g3 (fun q => by rcases q with q | q; exact hin (Or.inl q); exact hin (Or.inr (Nat.le_trans g4.1 q))) (g5 _ (by omega)) (k rfl)
      · cases hs
    · cases hs
  · rename_i x w r
    split at hs
    · rename_i t n f hw
      split at hs
      · rename_i hc
        obtain ⟨rfl, hc2⟩ := hc
        cases hs
        obtain ⟨cell, g1, g2, g3, g4, g5⟩ := ab_old hOA hR hw
        have hin := ab_ix_in hc2
        exact row g1 g2 g3 (fun q => by rcases q with q | q; exact hin (Or.inl q); exact hin (Or.inr (Nat.le_trans g4.1 q))) (g5 _ (by omega)) (k rfl)
      · cases hs
    · cases hs
  · cases hs
/-- an element is written -/
theorem ab_ast (hR : ab_R B od D dA cl NC NS s.heap n0 z0 h H locs cells slots) {j t n : Nat} {f : Nat → Value} {v : Value} {ix : Nat} {H1 : Heap} (hj : h[j]? = some (.inl (t, n, f)))
    (e1 : H1[B + j]? = some ((arrV (dA t) n (fun q => ab_v B od (f q))).setSlot ix (ab_v B od v))) (e2 : H1.size = H.size) (e3 : ∀ q, q ≠ B + j → H1[q]? = H[q]?) :
    ab_R B od D dA cl NC NS s.heap n0 z0 (h.set j (.inl (t, n, updV f ix v))) H1 (locs ++ [⟨B + j, ix⟩]) cells slots := by
  refine hR.set hj rfl ?_ e2 e3
  show H1[B + j]? = some (arrV (dA t) n (fun q => ab_v B od (updV f ix v q)))
  rw [e1, arrV_store]
  congr 2
  funext q
  by_cases hq : q = ix
  · subst hq; simp [updV]
  · simp [updV, hq]
theorem ab_find {α : Type} {P : α → Bool} {xs : List α} {t : Nat} (h : xs.findIdx? P = some t) : ∃ y, xs[t]? = some y ∧ P y = true := by
  obtain ⟨h1, h2, -⟩ := List.findIdx?_eq_some_iff_getElem.mp h
  exact ⟨xs[t], List.getElem?_eq_getElem h1, h2⟩
set_option maxHeartbeats 8000000 in
theorem ab_s2_ok (hx : p.tables.exec = Jvm.exec) (hb : c.code = cc) (hown : s.vm.findClass own = some m.cls) (hTs : ∀ w ∈ Ts, va_Nw w s) (hKC : ab_KC D cl s) (hCS : ab_CS cl ct cd) (hKA : ab_KA dA aty s) (hOA : ab_OA B od oa s s.heap) (hPL : ∀ x n, pl x = some n → ab_pe cl Ts own x n) (hST : ∀ x a b w, pl x = some (7, a, b, .float w) → ∃ tx : String, vk_R own x tx (od w.toNat) s) (hini : ini = true → meth.name = "<init>")
    (hNC : NC ≤ n0 + R.cells) (hNS : NS ≤ z0 + R.slots) (hdg : decode cc pc = .ok (i, len)) (hlen : ab_len i = 0 ∨ len = ab_len i) (hs : ab_s2 cl ct cd aty oa NC NS pl ini i pc S h = some (pc', S', h')) (hR : ab_R B od D dA cl NC NS s.heap n0 z0 h H locs cells slots)
    (k : ∀ (H' : Heap) (locs' : List Loc) (cells' slots' : Nat), ab_R B od D dA cl NC NS s.heap n0 z0 h' H' locs' cells' slots' → W p l e R s m args below meth c H' locs' cells' slots' Q (F0 m pc' ls (S'.map (ab_v B od)))) :
    W p l e R s m args below meth c H locs cells slots Q (F0 m pc ls (S.map (ab_v B od))) := by
  rcases hlen with hlen | hlen
  · cases i
    all_goals first | (simp only [ab_s2] at hs; cases hs; done) | (revert hlen; simp [ab_len]; done)
  subst hlen
  cases i
  case getfield x =>
    simp only [ab_s2] at hs
    split at hs
    · rename_i k0 a b fl j r hp
      split at hs
      · rename_i ci fs hj
        split at hs
        · rename_i hc
          obtain ⟨hk0, rfl⟩ := hc
          split at hs
          · rename_i v hv
            cases hs
            exact ab_getf hx hb hown hTs hKC hR hk0 (hPL _ _ hp) hj hv hdg (k _ _ _ _ hR)
          · cases hs
        · cases hs
      · cases hs
    · cases hs
  case putfield x =>
    simp only [ab_s2] at hs
    split at hs
    · rename_i k0 a b fl v j r hp
      split at hs
      · rename_i ci fs hj
        split at hs
        · rename_i hc
          obtain ⟨hk0, rfl, hbl, hft, hfin⟩ := hc
          cases hs
          exact ab_putf hx hb hown hTs hKC hCS hR hini hk0 (hPL _ _ hp) hj hbl hft hfin hdg (fun H1 locs1 hR1 => k _ _ _ _ hR1)
        · cases hs
      · cases hs
    · cases hs
  case iaload =>
    simp only [ab_s2] at hs
    exact ab_ald_ok hKA hOA hR (fun g1 g2 g3 g4 g5 kk => W.iald hx hb g1 g2 g3 g4 g5 rfl rfl hdg kk) hs (fun he => by subst he; exact k _ _ _ _ hR)
  case baload =>
    simp only [ab_s2] at hs
    exact ab_ald_ok hKA hOA hR (fun g1 g2 g3 g4 g5 kk => W.bald hx hb g1 g2 g3 g4 g5 rfl rfl hdg kk) hs (fun he => by subst he; exact k _ _ _ _ hR)
  case caload =>
    simp only [ab_s2] at hs
    exact ab_ald_ok hKA hOA hR (fun g1 g2 g3 g4 g5 kk => W.cald hx hb g1 g2 g3 g4 g5 rfl rfl hdg kk) hs (fun he => by subst he; exact k _ _ _ _ hR)
  case laload =>
    simp only [ab_s2] at hs
    exact ab_ald_ok hKA hOA hR (fun g1 g2 g3 g4 g5 kk => W.lald hx hb g1 g2 g3 g4 g5 rfl rfl hdg kk) hs (fun he => by subst he; exact k _ _ _ _ hR)
  case aaload =>
    simp only [ab_s2] at hs
    split at hs
    · rename_i x j r
      split at hs
      · rename_i t n f hj
        split at hs
        · rename_i hc
          cases hs
          obtain ⟨ty, ht, hty⟩ : ∃ ty, aty[t]? = some ty ∧ ty.isReference = true := by
            cases ha : aty[t]? with
            | none => rw [ha] at hc; simp at hc
            | some ty =>
              refine ⟨ty, rfl, ?_⟩
              rw [ha] at hc
              cases ty <;> first | rfl | (simp [ab_isR] at hc)
          obtain ⟨cell, g1, g2, g3, g4, g5⟩ := ab_arr hKA hR hj ht
          have hin := ab_ix_in hc.2
          exact W.aald hx hb g1 g2 hty g3 (fun q => by rcases q with q | q; exact hin (Or.inl q); exact hin (Or.inr (Nat.le_trans g4.1 q))) (g5 _ (by omega)) rfl rfl hdg (k _ _ _ _ hR)
        · cases hs
      · cases hs
    · cases hs
  case arraylength =>
    simp only [ab_s2] at hs
    split at hs
    · rename_i j r
      split at hs
      · rename_i t n f hj
        split at hs
        · rename_i hc
          cases hs
          obtain ⟨cell, g1, g2, g3, g4, g5⟩ := ab_arr hKA hR hj (List.getElem?_eq_getElem hc)
          exact W.alen hx hb g1 g2 g4.2 rfl rfl hdg (k _ _ _ _ hR)
        · cases hs
      · cases hs
    · rename_i w r
      split at hs
      · rename_i t n f hw
        cases hs
        obtain ⟨cell, g1, g2, g3, g4, g5⟩ := ab_old hOA hR hw
        exact W.alen hx hb g1 g2 g4.2 rfl rfl hdg (k _ _ _ _ hR)
      · cases hs
    · cases hs
  case iastore =>
    simp only [ab_s2] at hs
    split at hs
    · rename_i y x j r
      split at hs
      · rename_i t n f hj
        split at hs
        · rename_i hc
          cases hs
          have hin := ab_ix_in hc.2
          exact W.iast hx hb (hR.1 j _ hj) ((hKA t _ hc.1).1 n _) (fun q => by cases q) (by rw [arrV_size]; exact hin) rfl rfl hdg (fun H1 e1 e2 e3 => k _ _ _ _ (ab_ast hR hj e1 e2 e3))
        · cases hs
      · cases hs
    · cases hs
  case bastore =>
    simp only [ab_s2] at hs
    split at hs
    · rename_i y x j r
      split at hs
      · rename_i t n f hj
        split at hs
        · rename_i hc
          cases hs
          have hin := ab_ix_in hc.2
          exact W.bast hx hb (hR.1 j _ hj) ((hKA t _ hc.1).1 n _) (fun q => by cases q) (by rw [arrV_size]; exact hin) rfl rfl hdg (fun H1 e1 e2 e3 => k _ _ _ _ (ab_ast hR hj e1 e2 e3))
        · cases hs
      · cases hs
    · cases hs
  case lastore =>
    simp only [ab_s2] at hs
    split at hs
    · rename_i y x j r
      split at hs
      · rename_i t n f hj
        split at hs
        · rename_i hc
          cases hs
          have hin := ab_ix_in hc.2
          exact W.last hx hb (hR.1 j _ hj) ((hKA t _ hc.1).1 n _) (fun q => by cases q) (by rw [arrV_size]; exact hin) rfl rfl hdg (fun H1 e1 e2 e3 => k _ _ _ _ (ab_ast hR hj e1 e2 e3))
        · cases hs
      · cases hs
    · cases hs
  case newarray at_ =>
    simp only [ab_s2] at hs
    split at hs
    · rename_i x r
      split at hs
      · rename_i t ht
        split at hs
        · rename_i hc
          obtain ⟨hn, hbig, hc1, hc2, hfl⟩ := hc
          cases hs
          obtain ⟨y, hy, hy2⟩ := ab_find ht
          have hy3 : y = newarray.typeOf at_ := by simpa using hy2
          subst hy3
          obtain ⟨hA1, hA2, hA3⟩ := hKA t _ hy
          have hb4 : x.toNatClampNeg * componentBytes (newarray.typeOf at_) ≤ 536870912 := by
            have : componentBytes (newarray.typeOf at_) ≤ 8 := by cases at_ <;> decide
            calc _ ≤ x.toNatClampNeg * 8 := Nat.mul_le_mul_left _ this
              _ ≤ 536870912 := by omega
          have q4 := hR.2.2.2.1
          have q5 := hR.2.2.2.2.1
          refine va_newaK hx hb (by have := hA3 ⟨at_, rfl⟩; exact this) rfl hdg rfl hn rfl hb4 (by omega) (by omega) rfl fun H1 cA e1 z1 o1 hAr hNm => ?_
          have hcA : cA = dA t := by
            have q := hA2
            cases at_ <;> exact Option.some.inj (hNm.symm.trans q)
          subst hcA
          have hdv : ab_v B od (defaultValue (newarray.typeOf at_)) = defaultValue (newarray.typeOf at_) := by cases at_ <;> first | rfl | exact absurd rfl hfl
          have hR2 := hR.push (x := .inl (t, x.toNatClampNeg, fun _ => defaultValue (newarray.typeOf at_))) (n := x.toNatClampNeg) (H1 := H1) rfl hc1 hc2 (by show H1[B + h.length]? = some (arrV (dA t) x.toNatClampNeg (fun _ => ab_v B od (defaultValue (newarray.typeOf at_)))); rw [hdv, ← hR.2.1]; exact e1) z1 o1
          have kk := k _ _ _ _ hR2
          rw [hR.2.1]
          exact kk
        · cases hs
      · cases hs
    · cases hs
  case new x =>
    simp only [ab_s2] at hs
    split at hs
    · rename_i ci _ _ hp
      split at hs
      · rename_i q hq
        split at hs
        · rename_i hc
          obtain ⟨hc1, hc2⟩ := hc
          cases hs
          obtain ⟨r, hr, l1, l2, l3⟩ := hPL _ _ hp
          cases hq.symm.trans hr
          obtain ⟨hKn, hws⟩ := hKC ci _ hq
          obtain ⟨c1, c2, c3, c4, c5⟩ := hCS ci _ hq
          have q4 := hR.2.2.2.1
          have q5 := hR.2.2.2.2.1
          refine W.newcK hx hb hown (va_Nw.use rfl (hTs _ l1)) (va_Nw.use rfl (hTs _ l2)) (va_Nw.use rfl (hTs _ l3)) rfl hdg (by omega) (by omega) hKn.2.1 rfl fun H1 kC hkC e1 z1 o1 => ?_
          have hmap : (cd ci).map (ab_v B od) = cd ci := by
            rw [List.map_congr_left (g := id) (fun v hv => c5 v hv B od)]; simp
          have hR2 := hR.push (x := .inr (ci, cd ci)) (n := q.2.2) (H1 := H1) c4 hc1 hc2 ⟨_, hq, by rw [← hR.2.1, hmap]; exact (u_born (ct ci) (hws args) (fun w hw => hw) hKn hkC e1 c1).to c3⟩ z1 o1
          have kk := k _ _ _ _ hR2
          rw [hR.2.1]
          exact kk
        · cases hs
      · cases hs
    · cases hs
  case ldc x =>
    simp only [ab_s2] at hs
    split at hs
    · rename_i _ _ v hp
      cases hs
      have q := hPL _ _ hp
      exact lv_ldc hx hb hown (va_Nw.use rfl (hTs _ q)) hdg (k _ _ _ _ hR)
    · rename_i _ _ w hp
      cases hs
      obtain ⟨tx, q⟩ := hST _ _ _ _ hp
      exact va_ldcS hx hb hown q hdg (k _ _ _ _ hR)
    · cases hs
  case ldc2_w x =>
    simp only [ab_s2] at hs
    split at hs
    · rename_i _ _ v hp
      cases hs
      have q := hPL _ _ hp
      exact lv_ldc2 hx hb hown (va_Nw.use rfl (hTs _ q)) hdg (k _ _ _ _ hR)
    · cases hs
  all_goals (simp only [ab_s2] at hs; cases hs)
end AB2
end
section
/-! more instructions: statics, references compared, casts, arrays of references, old objects -/
def ab_acmp (a b : Value) : Option Bool := match a, b with
  | .ref x, .ref y => some (x == y)
  | .null, .null => some true
  | .null, .ref _ => some false
  | .ref _, .null => some false
  | .null, .float _ => some false
  | .float _, .null => some false
  | .ref _, .float _ => some false
  | .float _, .ref _ => some false
  | .float x, .float y => if x = y then some true else none
  | _, _ => none
def ab_qa (B : Nat) (od : Nat → Nat) (v : Value) : Option Nat := match v with
  | .ref x => some (B + x)
  | .float w => some (od w.toNat)
  | _ => none
theorem ab_acmp_ok {B : Nat} {od : Nat → Nat} (hod : ∀ w, od w < B) {a b : Value} {t : Bool} (h : ab_acmp a b = some t) : ab_v B od a = va_rf (ab_qa B od a) ∧ ab_v B od b = va_rf (ab_qa B od b) ∧ (ab_qa B od a = ab_qa B od b ↔ t = true) := by
  unfold ab_acmp at h
  split at h
  all_goals first | (cases h; done) | skip
  · rename_i x y
    cases h
    refine ⟨rfl, rfl, ?_⟩
    simp [ab_qa]
  · cases h; exact ⟨rfl, rfl, by simp [ab_qa]⟩
  · cases h; exact ⟨rfl, rfl, by simp [ab_qa]⟩
  · cases h; exact ⟨rfl, rfl, by simp [ab_qa]⟩
  · cases h; exact ⟨rfl, rfl, by simp [ab_qa]⟩
  · cases h; exact ⟨rfl, rfl, by simp [ab_qa]⟩
  · rename_i x w
    cases h
    refine ⟨rfl, rfl, ?_⟩
    have := hod w.toNat
    simp [ab_qa]
    omega
  · rename_i w x
    cases h
    refine ⟨rfl, rfl, ?_⟩
    have := hod w.toNat
    simp [ab_qa]
    omega
  · rename_i x y
    split at h
    · rename_i e
      subst e
      cases h
      exact ⟨rfl, rfl, by simp⟩
    · cases h
/-- pool: 4 static (its value); 6 array class (place in aty); 12 cast to a class (number); 13 cast to an array class (place in aty) -/
def ab_s4 (aty : List FieldType) (sb : List (Nat × Nat)) (oo : Nat → Option (Nat × List Value)) (NC NS : Nat) (pl : Nat → Option ab_N) (i : Instr) (pc tg : Nat) (S : List Value) (h : ab_H) : Option (Nat × List Value × ab_H) := match i with
  | .if_acmp .eq _ => (match S with
    | b :: a :: r => (match ab_acmp a b with | some t => some (if t = true then tg else pc + 3, r, h) | none => none)
    | _ => none)
  | .if_acmp .ne _ => (match S with
    | b :: a :: r => (match ab_acmp a b with | some t => some (if t = true then pc + 3 else tg, r, h) | none => none)
    | _ => none)
  | .getstatic x => (match pl x with
    | some (4, _, _, v) => some (pc + 3, v :: S, h)
    | _ => none)
  | .getfield x => (match pl x, S with
    | some (0, a, b, _), .float w :: r => (match oo w.toNat with
      | some (ci, fs) => if ci = a then (match fs[b]? with | some v => some (pc + 3, v :: r, h) | none => none) else none
      | none => none)
    | _, _ => none)
  | .checkcast x => (match S with
    | .null :: _ => some (pc + 3, S, h)
    | .ref j :: _ => (match pl x, h[j]? with
      | some (12, ci, _, _), some (.inr (cj, _)) => if ci = cj then some (pc + 3, S, h) else none
      | some (13, t, _, _), some (.inl (u, _, _)) => if t = u then some (pc + 3, S, h) else none
      | _, _ => none)
    | _ => none)
  | .anewarray x => (match S, pl x with
    | .int y :: r, some (6, t, _, _) => if ¬ y < 0 ∧ y.toNatClampNeg ≤ 65536 ∧ h.length + 1 ≤ NC ∧ ab_sz h + y.toNatClampNeg ≤ NS then some (pc + 3, .ref h.length :: r, h ++ [.inl (t, y.toNatClampNeg, fun _ => .null)]) else none
    | _, _ => none)
  | .aastore => (match S with
    | .ref v :: .int x :: .ref j :: r => (match h[v]?, h[j]? with
      | some (.inr (ci, _)), some (.inl (t, n, f)) => if (t, ci) ∈ sb ∧ ab_ix x n = true then some (pc + 1, r, h.set j (.inl (t, n, updV f x.toNatClampNeg (.ref v)))) else none
      | _, _ => none)
    | .float w :: .int x :: .ref j :: r => (match oo w.toNat, h[j]? with
      | some (ci, _), some (.inl (t, n, f)) => if (t, ci) ∈ sb ∧ ab_ix x n = true then some (pc + 1, r, h.set j (.inl (t, n, updV f x.toNatClampNeg (.float w)))) else none
      | _, _ => none)
    | .null :: .int x :: .ref j :: r => (match h[j]? with
      | some (.inl (t, n, f)) => if (aty[t]?).map ab_isR = some true ∧ ab_ix x n = true then some (pc + 1, r, h.set j (.inl (t, n, updV f x.toNatClampNeg .null))) else none
      | _ => none)
    | _ => none)
  | _ => none
/-- what the words Ts say of such an entry -/
def ab_p4 (cl : List vw_C) (aty : List FieldType) (Ts : List Cond) (own : String) (x : Nat) (n : ab_N) : Prop := match n with
  | (6, t, _, _) => ∃ C : String, aty[t]? = some (.object C) ∧ Cond.classLink own x C ∈ Ts
  | (12, ci, _, _) => ∃ r : vw_C, cl[ci]? = some r ∧ Cond.classLink own x r.1 ∈ Ts
  | (13, t, _, _) => ∃ C : String, aty[t]? = some (.object C) ∧ Cond.classLink own x ("[" ++ (FieldType.object C).toString) ∈ Ts
  | _ => True
def ab_OO (B : Nat) (od : Nat → Nat) (cl : List vw_C) (oo : Nat → Option (Nat × List Value)) (s : State) (H : Heap) : Prop := ∀ (w ci : Nat) (fs : List Value), oo w = some (ci, fs) → ∃ r : vw_C, cl[ci]? = some r ∧ va_O r.1 (od w) (fun q => B ≤ q) s H ∧ ∀ (b : Nat) (v : Value), fs[b]? = some v → b < r.2.2 ∧ va_OF (r.2.1 b).1 (r.2.1 b).2.1 (r.2.1 b).2.2.1 (ab_v B od v) (od w) (fun q => B ≤ q) s H
def ab_SZ (B : Nat) (od : Nat → Nat) (Ts : List Cond) (own : String) (pl : Nat → Option ab_N) (s : State) (H : Heap) : Prop := ∀ (x a b : Nat) (v : Value), pl x = some (4, a, b, v) → ∃ C n d : String, va_Z C n d (ab_v B od v) (fun q => B ≤ q) s H ∧ Cond.fieldLink own x C n d ∈ Ts
section AB4
variable {p : Program} {l : Launch} {e : Env} {R : Room} {s : State} {m : MethodId} {args : Array Value} {below : List Frame} {meth : Method} {c : Code} {H : Heap} {locs : List Loc} {cells slots : Nat} {Q : State → Prop}
variable {cc : ByteArray} {pc pc' tg nL len B n0 z0 NC NS : Nat} {od : Nat → Nat} {S S' : List Value} {h h' : ab_H} {i : Instr} {ls : Array Slot} {own : String}
variable {D : va_G} {dA : Nat → ClassId} {cl : List vw_C} {aty : List FieldType} {sb : List (Nat × Nat)} {oo : Nat → Option (Nat × List Value)} {pl : Nat → Option ab_N} {Ts : List Cond}
theorem ab_aast (hx : p.tables.exec = Jvm.exec) (hb : c.code = cc) (hTs : ∀ w ∈ Ts, va_Nw w s) (hKC : ab_KC D cl s) (hKA : ab_KA dA aty s) (hsb : ∀ t ci, (t, ci) ∈ sb → ∃ (E : String) (r : vw_C), aty[t]? = some (.object E) ∧ cl[ci]? = some r ∧ (r.1 = E ∨ Cond.castable r.1 E ∈ Ts)) (hR : ab_R B od D dA cl NC NS s.heap n0 z0 h H locs cells slots)
    {t ci j n : Nat} {f : Nat → Value} {v : Value} {a : Nat} {x : Int32} {r : List Value} (hv : ab_v B od v = .ref a) (hcell : ∃ cell : Cell, H[a]? = some cell ∧ cell.vm.isStatics = false ∧ ∀ r : vw_C, cl[ci]? = some r → s.vm.findClass r.1 = some cell.cls) (hj : h[j]? = some (.inl (t, n, f))) (hin : (t, ci) ∈ sb) (hix : ab_ix x n = true) (hdg : decode cc pc = .ok (.aastore, 1))
    (k : ∀ (H1 : Heap) (locs1 : List Loc), ab_R B od D dA cl NC NS s.heap n0 z0 (h.set j (.inl (t, n, updV f x.toNatClampNeg v))) H1 locs1 cells slots → W p l e R s m args below meth c H1 locs1 cells slots Q (F0 m (pc + 1) ls r)) : W p l e R s m args below meth c H locs cells slots Q (F0 m pc ls (ab_v B od v :: .int x :: .ref (B + j) :: r)) := by
  obtain ⟨E, r1, ht, hr1, hw⟩ := hsb t ci hin
  obtain ⟨hA1, hA2, -⟩ := hKA t _ ht
  obtain ⟨kA, comp, k1, k2, k3, -⟩ := hA2
  obtain ⟨kE, hkE, -⟩ := Vm.findClass_spec k3
  obtain ⟨cellV, g1, g2, g3⟩ := hcell
  have g3 := g3 r1 hr1
  have f3 : s.vm.assignable cellV.cls comp = true := by
    rcases hw with rfl | hw
    · cases g3.symm.trans k3
      have hca := (hKC ci r1 hr1).1.2
      have he := Option.some.inj (hca.1.symm.trans g3)
      have h1 := va_assign hca
      rw [he] at h1
      exact h1
    · obtain ⟨c0, t1, f1, f2, f3⟩ := Cond.castable_spec (hTs _ hw)
      cases g3.symm.trans f1
      cases k3.symm.trans f2
      exact f3
  obtain ⟨kC, hkC, -⟩ := Vm.findClass_spec g3
  have hin2 := ab_ix_in hix
  rw [hv]
  refine W.aast hx hb (hR.1 j _ hj) (fun q h => by cases h) (fun h => by cases h) k1 k2 rfl hkE ⟨fun q => hin2 (Or.inl q), by rw [arrV_size]; omega⟩ g1 (fun q h => by rw [h] at g2; cases g2) hkC f3 rfl rfl hdg fun H1 e1 e2 e3 => ?_
  exact k H1 _ (ab_ast hR hj (by rw [hv]; exact e1) e2 e3)
set_option maxHeartbeats 8000000 in
theorem ab_s4_ok (hx : p.tables.exec = Jvm.exec) (hb : c.code = cc) (hown : s.vm.findClass own = some m.cls) (hTs : ∀ w ∈ Ts, va_Nw w s) (hKC : ab_KC D cl s) (hKA : ab_KA dA aty s) (hAO : ∀ (t : Nat) (C : String), aty[t]? = some (.object C) → va_AO C s) (hod : ∀ w, od w < B) (hOO : ab_OO B od cl oo s s.heap) (hSZ : ab_SZ B od Ts own pl s s.heap)
    (hsb : ∀ t ci, (t, ci) ∈ sb → ∃ (E : String) (r : vw_C), aty[t]? = some (.object E) ∧ cl[ci]? = some r ∧ (r.1 = E ∨ Cond.castable r.1 E ∈ Ts)) (hPL : ∀ x n, pl x = some n → ab_pe cl Ts own x n) (hP4 : ∀ x n, pl x = some n → ab_p4 cl aty Ts own x n)
    (hNC : NC ≤ n0 + R.cells) (hNS : NS ≤ z0 + R.slots) (hdg : decode cc pc = .ok (i, len)) (hlen : ab_len i = 0 ∨ len = ab_len i) (htg0 : ∀ off, ab_off i = some off → (pc : Int) + off = (tg : Int)) (hs : ab_s4 aty sb oo NC NS pl i pc tg S h = some (pc', S', h')) (hR : ab_R B od D dA cl NC NS s.heap n0 z0 h H locs cells slots)
    (k : ∀ (H' : Heap) (locs' : List Loc) (cells' slots' : Nat), ab_R B od D dA cl NC NS s.heap n0 z0 h' H' locs' cells' slots' → W p l e R s m args below meth c H' locs' cells' slots' Q (F0 m pc' ls (S'.map (ab_v B od)))) :
    W p l e R s m args below meth c H locs cells slots Q (F0 m pc ls (S.map (ab_v B od))) := by
  rcases hlen with hlen | hlen
  · cases i
    all_goals first | (simp only [ab_s4] at hs; cases hs; done) | (revert hlen; simp [ab_len]; done)
  subst hlen
  cases i
  case if_acmp cd off =>
    have htg := htg0 _ rfl
    cases cd
    case eq =>
      simp only [ab_s4] at hs
      split at hs
      · rename_i b a r
        split at hs
        · rename_i t ht
          cases hs
          obtain ⟨e1, e2, e3⟩ := ab_acmp_ok hod ht
          have kk := k _ _ _ _ hR
          have hgl : W p l e R s m args below meth c H locs cells slots Q (F0 m pc ls (va_rf (ab_qa B od b) :: va_rf (ab_qa B od a) :: S'.map (ab_v B od))) :=
            lv_acmp_eq hx hb hdg htg (fun hc => by rw [if_pos (e3.mp hc)] at kk; exact kk) (fun hc => by rw [if_neg (fun z => hc (e3.mpr z))] at kk; exact kk)
          rw [← e1, ← e2] at hgl
          exact hgl
        · cases hs
      · cases hs
    case ne =>
      simp only [ab_s4] at hs
      split at hs
      · rename_i b a r
        split at hs
        · rename_i t ht
          cases hs
          obtain ⟨e1, e2, e3⟩ := ab_acmp_ok hod ht
          have kk := k _ _ _ _ hR
          have hgl : W p l e R s m args below meth c H locs cells slots Q (F0 m pc ls (va_rf (ab_qa B od b) :: va_rf (ab_qa B od a) :: S'.map (ab_v B od))) :=
            lv_acmp_ne hx hb hdg htg (fun hc => by rw [if_neg (fun z => hc (e3.mpr z))] at kk; exact kk) (fun hc => by rw [if_pos (e3.mp hc)] at kk; exact kk)
          rw [← e1, ← e2] at hgl
          exact hgl
        · cases hs
      · cases hs
  case getstatic x =>
    simp only [ab_s4] at hs
    split at hs
    · rename_i _ _ v hp
      cases hs
      obtain ⟨C, n, d, hZ, hl⟩ := hSZ _ _ _ _ hp
      exact va_gets hx hb hZ hR.2.2.1 hown (va_Nw.use rfl (hTs _ hl)) (fun z hz => hz) hdg (k _ _ _ _ hR)
    · cases hs
  case getfield x =>
    simp only [ab_s4] at hs
    split at hs
    · rename_i a b fl w r hp
      split at hs
      · rename_i ci fs hw
        split at hs
        · rename_i hc
          subst hc
          split at hs
          · rename_i v hv
            cases hs
            obtain ⟨r1, hr1, -, hfl⟩ := hOO _ _ _ hw
            obtain ⟨hbb, hOF⟩ := hfl _ _ hv
            obtain ⟨r2, ref, hr2, hb2, hl2, hs2, -⟩ := hPL _ _ hp
            cases hr1.symm.trans hr2
            exact vk_getf hx hb hOF hR.2.2.1 hown (va_Nw.use rfl (hTs _ hl2)) (ab_same hTs hs2) hdg (k _ _ _ _ hR)
          · cases hs
        · cases hs
      · cases hs
    · cases hs
  case checkcast x =>
    simp only [ab_s4] at hs
    split at hs
    · rename_i r
      cases hs
      exact lv_castN hx hb hdg (k _ _ _ _ hR)
    · rename_i j r
      split at hs
      · rename_i ci _ _ cj fs hp hj
        split at hs
        · rename_i hc
          subst hc
          cases hs
          obtain ⟨r1, hr1, hl1⟩ := hP4 _ _ hp
          obtain ⟨r2, hr2, cell, q1, q2, q3, q4⟩ := hR.1 j _ hj
          cases hr1.symm.trans hr2
          exact va_castS hx hb hown (va_Nw.use rfl (hTs _ hl1)) (hKC ci r1 hr1).1.2 ⟨cell, q1, by rw [q3]; rfl, by rw [q2]; exact (hKC ci r1 hr1).1.2.1⟩ hdg (k _ _ _ _ hR)
        · cases hs
      · rename_i t _ _ u n f hp hj
        split at hs
        · rename_i hc
          subst hc
          cases hs
          obtain ⟨C, ht, hl1⟩ := hP4 _ _ hp
          obtain ⟨hA1, hA2, -⟩ := hKA t _ ht
          obtain ⟨kA, comp, k1, k2, k3, k4⟩ := hA2
          have q1 : H[B + j]? = some (arrV (dA t) n (fun q => ab_v B od (f q))) := hR.1 j _ hj
          intro T hT X
          obtain ⟨vm', X', st⟩ := X.checkcastYes hx hown (va_Nw.use rfl (hTs _ hl1)) (by rw [hT]; exact q1) rfl k4 (va_asg _ _) (g := F0 m pc ls (List.map (ab_v B od) (Value.ref j :: r))) rfl rfl (by rw [hb]; exact hdg)
          obtain ⟨t', a1, b1⟩ := (k _ _ _ _ hR) (T.setVm vm') hT X'
          exact ⟨t', st t' a1, b1⟩
        · cases hs
      · cases hs
    · cases hs
  case anewarray x =>
    simp only [ab_s4] at hs
    split at hs
    · rename_i y r t _ _ hp
      split at hs
      · rename_i hc
        obtain ⟨hn, hbig, hc1, hc2⟩ := hc
        cases hs
        obtain ⟨C, ht, hl1⟩ := hP4 _ _ hp
        obtain ⟨hA1, hA2, -⟩ := hKA t _ ht
        obtain ⟨kA, comp, k1, k2, k3, k4⟩ := hA2
        have q4 := hR.2.2.2.1
        have q5 := hR.2.2.2.2.1
        refine W.anew hx hb hown (va_Nw.use rfl (hTs _ hl1)) (va_AO.use (hAO t C ht)) rfl hdg rfl hn (by omega) (by omega) (by omega) fun cA kA2 comp2 f1 f2 f3 f4 => ?_
        have hcA : cA = dA t := Option.some.inj (f1.symm.trans k4)
        subst hcA
        generalize hH1 : H.push ({ cls := dA t, slots := Array.replicate y.toNatClampNeg .null, vm := .none } : Cell) = H1
        have z1 : H1.size = H.size + 1 := by rw [← hH1, Array.size_push]
        have e1 : H1[H.size]? = some (arrV (dA t) y.toNatClampNeg (fun _ => .null)) := by rw [← hH1, Array.getElem?_push_size, ← arrV_new]
        have o1 : ∀ q : Nat, q < H.size → H1[q]? = H[q]? := fun q hq => by rw [← hH1, Array.getElem?_push, if_neg (Nat.ne_of_lt hq)]
        have hR2 := hR.push (x := .inl (t, y.toNatClampNeg, fun _ => .null)) (n := y.toNatClampNeg) (H1 := H1) rfl hc1 hc2 (by show H1[B + h.length]? = some (arrV (dA t) y.toNatClampNeg (fun _ => .null)); rw [← hR.2.1]; exact e1) z1 o1
        have kk := k _ _ _ _ hR2
        rw [hR.2.1]
        exact kk
      · cases hs
    · cases hs
  case aastore =>
    simp only [ab_s4] at hs
    split at hs
    · rename_i v x j r
      split at hs
      · rename_i ci fs t n f hv hj
        split at hs
        · rename_i hc
          obtain ⟨hc1, hc2⟩ := hc
          cases hs
          obtain ⟨r2, hr2, cell, q1, q2, q3, q4⟩ := hR.1 v _ hv
          exact ab_aast hx hb hTs hKC hKA hsb hR (v := .ref v) rfl ⟨cell, q1, by rw [q3]; rfl, fun r hr => by cases hr.symm.trans hr2; rw [q2]; exact (hKC ci _ hr2).1.2.1⟩ hj hc1 hc2 hdg (fun H1 locs1 hR1 => k _ _ _ _ hR1)
        · cases hs
      · cases hs
    · rename_i w x j r
      split at hs
      · rename_i ci fs t n f hw hj
        split at hs
        · rename_i hc
          obtain ⟨hc1, hc2⟩ := hc
          cases hs
          obtain ⟨r1, hr1, hO, -⟩ := hOO _ _ _ hw
          obtain ⟨cell, o1, o2, o3, -⟩ := hO.kept hR.2.2.1.2.1
          exact ab_aast hx hb hTs hKC hKA hsb hR (v := .float w) rfl ⟨cell, o1, o2, fun r hr => by cases hr.symm.trans hr1; exact o3⟩ hj hc1 hc2 hdg (fun H1 locs1 hR1 => k _ _ _ _ hR1)
        · cases hs
      · cases hs
    · rename_i x j r
      split at hs
      · rename_i t n f hj
        split at hs
        · rename_i hc
          cases hs
          obtain ⟨C, ht⟩ : ∃ C, aty[t]? = some (.object C) := by
            cases ha : aty[t]? with
            | none => rw [ha] at hc; simp at hc
            | some ty =>
              rw [ha] at hc
              cases ty <;> first | exact ⟨_, rfl⟩ | (simp [ab_isR] at hc)
          have hin := ab_ix_in hc.2
          exact va_WaastN (C := C) hx hb (hR.1 j _ hj) ((hKA t _ ht).1 n _) (fun h => by cases h) (by rw [arrV_size]; exact hin) rfl rfl hdg fun H1 e1 e2 e3 => k _ _ _ _ (ab_ast hR hj (v := .null) e1 e2 e3)
        · cases hs
      · cases hs
    · cases hs
  all_goals (simp only [ab_s4] at hs; cases hs)
end AB4
end
section
/-! calls, throws, returns -/
/-- how an invocation ends: returned, or threw (class number, place) -/
abbrev ab_O : Type := Option Value ⊕ (Nat × Nat)
def ab_o (B : Nat) (od : Nat → Nat) (o : ab_O) : Outcome := match o with
  | .inl v => .returned (v.map (ab_v B od))
  | .inr (_, j) => .threw (B + j)
def ab_Q (below : List Frame) (s : State) (B : Nat) (od : Nat → Nat) (D : va_G) (dA : Nat → ClassId) (cl : List vw_C) (NC NS n0 z0 : Nat) (o : ab_O) (h' : ab_H) (t : State) : Prop :=
  t.status = .running ∧ Ended t below (ab_o B od o) ∧ s.WarmedH t.vm ∧ ∃ (L : List Loc) (k n : Nat), s.sameButNew ({ t with vm := s.vm } : State) L k n ∧ ab_R B od D dA cl NC NS s.heap n0 z0 h' t.heap L k n
theorem ab_steps_weaken {tb : Tables} {e : Env} {g : Frame} {below : List Frame} {a b : State} (h : Steps tb e (g :: below) a b) : Steps tb e below a b := by
  obtain ⟨n, h1, h2⟩ := h
  refine ⟨n, h1, fun k hk => ?_⟩
  obtain ⟨ab, q1, q2, q3⟩ := h2 k hk
  refine ⟨ab ++ [g], by rw [q1]; simp, by simp, fun x hx => ?_⟩
  have := congrArg List.length hx
  cases ab with
  | nil => exact q2 rfl
  | cons y ys => simp at this
section AB3
variable {p : Program} {l : Launch} {e : Env} {R : Room} {s : State} {m : MethodId} {args : Array Value} {below : List Frame} {meth : Method} {c : Code} {T : State} {H : Heap} {locs : List Loc} {cells slots : Nat}
variable {B n0 z0 NC NS : Nat} {od : Nat → Nat} {h h' : ab_H} {D : va_G} {dA : Nat → ClassId} {cl : List vw_C}
/-- where a caller goes on -/
def ab_nx (B : Nat) (od : Nat → Nat) (T' : State) (g : JFrame) (len : Nat) (o : ab_O) : State := match o with
  | .inl v => T'.setTop { g with pc := g.pc + len, stack := (v.map (ab_v B od)).toList ++ g.stack }
  | .inr (_, j) => (T'.setTop g).pushFrame (.throwing (B + j))
/-- the frame of a caller behind a callee -/
theorem ab_R.after {H0 H1 H2 : Heap} {L1 L2 : List Loc} {c1 s1 c2 s2 : Nat} (h1 : ab_R B od D dA cl NC NS H0 n0 z0 h H1 L1 c1 s1) (h2 : ab_R B od D dA cl NC NS H1 h.length (ab_sz h) h' H2 L2 c2 s2) : ab_R B od D dA cl NC NS H0 n0 z0 h' H2 (L1 ++ L2) (c1 + c2) (s1 + s2) := by
  obtain ⟨a1, a2, a3, a4, a5, -⟩ := h1
  obtain ⟨b1, b2, b3, b4, b5, b6⟩ := h2
  refine ⟨b1, b2, ⟨Nat.le_trans a3.1 b3.1, fun q x y => (b3.2.1 q (Nat.lt_of_lt_of_le x a3.1) y).trans (a3.2.1 q x y), fun q hq => ?_⟩, by omega, by omega, b6⟩
  rcases List.mem_append.mp hq with x | x
  · exact a3.2.2 q x
  · exact b3.2.2 q x
/-- a callee's run, taken into the caller's -/
theorem ab_into (X : Stand p l e R s m args below meth c T locs cells slots) (hR : ab_R B od D dA cl NC NS s.heap n0 z0 h T.heap locs cells slots) {g : JFrame} (hg : g.method = m) (hsize : g.locals.size = c.maxLocals) {ig : Instr} {len : Nat} (hdg : decode c.code g.pc = .ok (ig, len))
    {mk : MethodId} {methk : Method} {ck : Code} {a : Array Value} {R' : Room} (hmk : T.vm.method? mk = some methk) (hck : methk.code = some ck) (hlk : methk.locks = false) (hpk : T.plainMethod mk)
    (hframes : R'.frames + 1 ≤ R.frames) (hlocals : 2 * g.monitorRoom + (g.stack.map fun v => v.category).sum + (ck.maxLocals + 11) + R'.locals ≤ R.locals) (hcells : cells + R'.cells ≤ R.cells) (hslots : slots + R'.slots ≤ R.slots) {o : ab_O}
    (ih : W p l e R' (T.calling g mk a) mk a (.java g :: below) methk ck T.heap [] 0 0 (ab_Q (.java g :: below) (T.calling g mk a) B od D dA cl NC NS h.length (ab_sz h) o h') (entryFrame mk a ck.maxLocals)) :
    ∃ (T' : State) (locs' : List Loc) (cells' slots' : Nat), Stand p l e R s m args below meth c T' locs' cells' slots' ∧ ab_R B od D dA cl NC NS s.heap n0 z0 h' T'.heap locs' cells' slots' ∧
      ∀ acts, Steps p.tables e below (doInvoke e (T.setTop g) acts mk a).1 (ab_nx B od T' g len o) := by
  obtain ⟨Y, hin⟩ := X.into hg hsize hdg a (R' := R') hmk hck hlk hpk hframes hlocals hcells hslots
  have hh0 : ((T.setTop g).pushFrame (.java (entryFrame mk a ck.maxLocals))).heap = T.heap := rfl
  obtain ⟨t, st, h1, h2, h3, L, k, n, h4, h5⟩ := ih _ hh0 Y
  have h5' : ab_R B od D dA cl NC NS T.heap h.length (ab_sz h) h' t.heap L k n := h5
  rcases o with v | ⟨ce, j⟩
  · obtain ⟨T', X', hW, -, et⟩ := X.outOf hg hdg h2 h3 h4
    have eh : T'.heap = t.heap := by rw [et]; rfl
    refine ⟨T', _, _, _, X', by rw [eh]; exact hR.after h5', fun acts => ?_⟩
    rw [hin acts]
    show Steps p.tables e below _ (T'.setTop { g with pc := g.pc + len, stack := (v.map (ab_v B od)).toList ++ g.stack })
    rw [← et]
    exact ab_steps_weaken st
  · obtain ⟨T', X', hW, -, et⟩ := X.outOfThrown hg h2 h3 h4
    have eh : T'.heap = t.heap := by rw [et]; rfl
    refine ⟨T', _, _, _, X', by rw [eh]; exact hR.after h5', fun acts => ?_⟩
    rw [hin acts]
    show Steps p.tables e below _ ((T'.setTop g).pushFrame (.throwing (B + j)))
    rw [← et]
    exact ab_steps_weaken st
/-- the invocation begins anew in the middle: what was done before is past -/
theorem ab_rebase (X : Stand p l e R s m args below meth c T locs cells slots) {R' : Room} (h1 : R'.frames ≤ R.frames) (h2 : R'.locals ≤ R.locals) (h3 : cells + R'.cells ≤ R.cells) (h4 : slots + R'.slots ≤ R.slots) :
    Stand p l e R' (T.setFrames (.invoking m args :: below)) m args below meth c T [] 0 0 := by
  obtain ⟨g₀, hfr⟩ := X.frames_eq
  have hcur : T.cur < T.threads.size := State.cur_lt_of_frames hfr
  obtain ⟨th, hth, -⟩ := State.frames_cons hfr
  have hF : (T.setFrames (.invoking m args :: below)).frames = .invoking m args :: below := State.frames_setFrames _ hcur
  have hm : (T.setFrames (.invoking m args :: below)).vm.method? m = some meth := X.method'
  have hroom : (T.setFrames (.invoking m args :: below)).hasRoom e.platform R' = true := by
    obtain ⟨r1, r2, r3, r4⟩ := State.hasRoom_stack X.room
    have r5 := State.hasRoom_real X.room
    have hh := X.room
    simp only [State.hasRoom, Bool.and_eq_true, decide_eq_true_eq] at hh
    rw [State.localsInUse_invoking X.frames X.method X.code] at r3 r4 r5
    rw [X.frames, List.length_cons] at r1 r2
    have hU : (T.setFrames (.invoking m args :: below)).localsInUse = stackWeight below + vmFrameWords + (c.maxLocals + 11) := State.localsInUse_invoking hF hm X.code
    simp only [State.hasRoom, Bool.and_eq_true, decide_eq_true_eq, hF, hU, List.length_cons, State.stackLimits_setFrames, State.stackBytes_setFrames, X.limits, X.bytes]
    refine ⟨⟨⟨⟨by omega, by omega, by omega, by omega, by omega, hh.1.1.1.2.2.2.2.2⟩, ?_⟩, ?_⟩, X.book⟩
    · have := hh.1.1.2
      have := X.heapSize
      show T.heap.size + R'.cells ≤ e.platform.maxCells
      omega
    · have := hh.1.2
      have := X.used
      show T.slotsUsed + R'.slots ≤ e.platform.maxSlots
      omega
  have hcode : ∀ mm : MethodId, (T.setFrames (.invoking m args :: below)).code? mm = s.code? mm := fun mm => by
    rw [State.code?_eq, State.code?_eq]
    show (T.vm.method? mm).bind _ = _
    rw [X.warmed.alike.method?]
  have hmeth : ∀ mm : MethodId, (T.setFrames (.invoking m args :: below)).vm.method? mm = s.vm.method? mm := fun mm => X.warmed.alike.method? mm
  have hhears : (T.setFrames (.invoking m args :: below)).hears m below = true := by
    have hq := X.hears
    cases hb : below with
    | nil => rw [hb] at hq; simp only [State.hears] at hq ⊢; rw [← hb, hmeth]; exact hq
    | cons f r =>
      rw [hb] at hq
      cases f <;> simp only [State.hears] at hq ⊢ <;> first | (rw [← hb, hcode]; exact hq) | (rw [← hb, hmeth]; exact hq) | exact hq
  refine ⟨X.admits, X.cas, X.clock, hF, hroom, hhears, hm, X.code, X.here, X.tail, State.WarmedH.refl _, by rw [State.stackLimits_setFrames], by rw [State.stackBytes_setFrames], ?_⟩
  have h0 := (State.sameButNew.refl (T.setFrames (.invoking m args :: below)) (State.frames_cons hF).choose_spec.1).setFrames T.frames (by exact State.cur_lt_of_frames hF)
  have e0 : ((T.setFrames (.invoking m args :: below)).setFrames T.frames) = T := by
    rw [State.setFrames_setFrames, State.setFrames_self hth]
  rw [e0] at h0
  exact h0
end AB3
end
section
/-! methods, the run, its soundness -/
/-- name, bytes, locals, type of the answer, number of parameters, static, handlers, pool, code (pc, instruction, length, target) -/
abbrev ab_M : Type := MethodName × ByteArray × Nat × Option FieldType × Nat × Bool × List (Nat × Nat × Nat × Nat) × (Nat → Option ab_N) × List (Nat × Instr × Nat × Nat)
abbrev my_y (M : ab_M) : MethodName := M.1
abbrev my_b (M : ab_M) : ByteArray := M.2.1
abbrev my_l (M : ab_M) : Nat := M.2.2.1
abbrev my_r (M : ab_M) : Option FieldType := M.2.2.2.1
abbrev my_n (M : ab_M) : Nat := M.2.2.2.2.1
abbrev my_s (M : ab_M) : Bool := M.2.2.2.2.2.1
abbrev my_h (M : ab_M) : List (Nat × Nat × Nat × Nat) := M.2.2.2.2.2.2.1
abbrev my_p (M : ab_M) : Nat → Option ab_N := M.2.2.2.2.2.2.2.1
abbrev my_c (M : ab_M) : List (Nat × Instr × Nat × Nat) := M.2.2.2.2.2.2.2.2
def ab_fe (M : ab_M) (pc : Nat) : Option (Instr × Nat × Nat) := ((my_c M).find? (fun q => q.1 == pc)).map (fun q => q.2)
/-- the code table is the bytes' own -/
def ab_ck (M : ab_M) : Prop := ∀ q ∈ my_c M, decode (my_b M) q.1 = .ok (q.2.1, q.2.2.1) ∧ (ab_len q.2.1 = 0 ∨ q.2.2.1 = ab_len q.2.1) ∧ ∀ off, ab_off q.2.1 = some off → (q.1 : Int) + off = (q.2.2.2 : Int)
theorem ab_fe_ok {M : ab_M} (hc : ab_ck M) {pc len tg : Nat} {i : Instr} (h : ab_fe M pc = some (i, len, tg)) : decode (my_b M) pc = .ok (i, len) ∧ (ab_len i = 0 ∨ len = ab_len i) ∧ ∀ off, ab_off i = some off → (pc : Int) + off = (tg : Int) := by
  unfold ab_fe at h
  cases hf : (my_c M).find? (fun q => q.1 == pc) with
  | none => rw [hf] at h; cases h
  | some q =>
    rw [hf] at h
    have h1 := List.mem_of_find?_eq_some hf
    have h2 : q.1 = pc := by
      have z := List.find?_some hf
      simpa using z
    have h3 : q.2 = (i, len, tg) := Option.some.inj h
    have h4 := hc q h1
    rw [h3, h2] at h4
    exact h4
/-- returns -/
def ab_rt (M : ab_M) (i : Instr) (S : List Value) : Option (Option Value) := match i, S with
  | .ireturn, [.int v] => (match my_r M with
    | some ty => if ab_ft ty (.int v) = true then some (some (.int v)) else none
    | none => none)
  | .lreturn, [.long v] => if my_r M = some .long then some (some (.long v)) else none
  | .areturn, [.ref v] => (match my_r M with
    | some (.object _) => some (some (.ref v))
    | some (.array _) => some (some (.ref v))
    | _ => none)
  | .areturn, [.null] => (match my_r M with
    | some (.object _) => some (some .null)
    | some (.array _) => some (some .null)
    | _ => none)
  | .return_, [] => if my_r M = none then some none else none
  | _, _ => none
/-- switches -/
def ab_sw (pc : Nat) (i : Instr) (S : List Value) : Option (Nat × List Value) := match i, S with
  | .tableswitch dflt lo hi offs, .int x :: r => if x.toInt < lo ∨ hi < x.toInt then (if 0 ≤ (pc : Int) + dflt then some (((pc : Int) + dflt).toNat, r) else none) else (match offs[(x.toInt - lo).toNat]? with
    | some off => if 0 ≤ (pc : Int) + off then some (((pc : Int) + off).toNat, r) else none
    | none => none)
  | .lookupswitch dflt ps, .int x :: r => if (ps.toList.zip (ps.toList.drop 1)).all (fun (a, next) => a.1 < next.1) = true ∧ 0 ≤ (pc : Int) + Op.lookupswitch.offset ps.toList dflt x.toInt then some (((pc : Int) + Op.lookupswitch.offset ps.toList dflt x.toInt).toNat, r) else none
  | _, _ => none
def ab_wt (S : List Value) : Nat := (S.map fun v => v.category).sum
/-- a call: the method's number, its arguments, what is left on the stack -/
def ab_cs (cl : List vw_C) (mt : List ab_M) (pl : Nat → Option ab_N) (i : Instr) (S : List Value) (h : ab_H) : Option (Nat × List Value × List Value) := match i with
  | .invokestatic x => (match pl x with
    | some (1, j, _, _) => (match mt[j]? with
      | some N => if my_s N = true ∧ my_n N ≤ S.length then some (j, (S.take (my_n N)).reverse, S.drop (my_n N)) else none
      | none => none)
    | _ => none)
  | .invokevirtual x => (match pl x with
    | some (1, j, nst, _) => (match mt[j]? with
      | some N => (match S.drop (my_n N) with
        | .ref q :: r => (match h[q]? with
          | some (.inr (ci, _)) => if my_s N = false ∧ my_n N ≤ S.length ∧ (cl[ci]?).map (fun z => z.1) = some (my_y N).cls ∧ (nst = 2 ∨ nst = 3) then some (j, .ref q :: (S.take (my_n N)).reverse, r) else none
          | _ => none)
        | _ => none)
      | none => none)
    | _ => none)
  | .invokespecial x => (match pl x with
    | some (1, j, _, _) => (match mt[j]? with
      | some N => (match S.drop (my_n N) with
        | .ref q :: r => if my_s N = false ∧ my_n N ≤ S.length ∧ (my_y N).name = "<init>" ∧ my_r N = none ∧ my_h N = [] then some (j, .ref q :: (S.take (my_n N)).reverse, r) else none
        | _ => none)
      | none => none)
    | _ => none)
  | _ => none
/-- Object's constructor -/
def ab_ob (pl : Nat → Option ab_N) (i : Instr) (S : List Value) : Option (List Value) := match i with
  | .invokespecial x => (match pl x, S with
    | some (5, _, _, _), .ref _ :: r => if ab_wt r ≤ 20 then some r else none
    | _, _ => none)
  | _ => none
/-- throw new E("text"): the class's number -/
def ab_th (M : ab_M) (pc : Nat) : Option (Nat × Nat × Nat × Nat) := match ab_fe M pc, ab_fe M (pc + 3), ab_fe M (pc + 4), ab_fe M (pc + 6), ab_fe M (pc + 9) with
  | some (.new a, _, _), some (.dup, _, _), some (.ldc b, _, _), some (.invokespecial d, _, _), some (.athrow, _, _) => (match my_p M a, my_p M b, my_p M d with
    | some (9, ce, _, _), some (7, _, _, .float _), some (10, cf, _, _) => if ce = cf ∧ my_h M = [] then some (ce, a, b, d) else none
    | _, _, _ => none)
  | _, _, _, _, _ => none
/-- throw new E() -/
def ab_th0 (M : ab_M) (pc : Nat) : Option (Nat × Nat × Nat) := match ab_fe M pc, ab_fe M (pc + 3), ab_fe M (pc + 4), ab_fe M (pc + 7) with
  | some (.new a, _, _), some (.dup, _, _), some (.invokespecial d, _, _), some (.athrow, _, _) => (match my_p M a, my_p M d with
    | some (9, ce, _, _), some (14, cf, _, _) => if ce = cf ∧ my_h M = [] then some (ce, a, d) else none
    | _, _ => none)
  | _, _, _, _ => none
/-- the handler of an exception of class ce thrown at pc: catch types are entries (11, class, ..) of the pool; nc: pairs of classes of which the first can't be cast to the second -/
def ab_hd (M : ab_M) (nc : List (Nat × Nat)) (pc ce : Nat) : List (Nat × Nat × Nat × Nat) → Option Nat
  | [] => none
  | q :: r => if q.1 ≤ pc ∧ pc < q.2.1 then (match my_p M q.2.2.2 with
      | some (11, cj, _, _) => if ce = cj then some q.2.2.1 else if (ce, cj) ∈ nc then ab_hd M nc pc ce r else none
      | _ => none) else ab_hd M nc pc ce r
def ab_isx (h : ab_H) (q ce : Nat) : Bool := match h[q]? with
  | some (.inr (c, _)) => c == ce
  | _ => false
theorem ab_isx_ok {h : ab_H} {q ce : Nat} (hq : ab_isx h q ce = true) : ∃ fs, h[q]? = some (.inr (ce, fs)) := by
  unfold ab_isx at hq
  split at hq
  · rename_i c fs he
    have : c = ce := by simpa using hq
    subst this
    exact ⟨fs, he⟩
  · cases hq
def ab_run (cl : List vw_C) (ct : Nat → Nat → FieldType) (cd : Nat → List Value) (aty : List FieldType) (oa : Nat → Option (FieldType × Nat × (Nat → Value))) (oo : Nat → Option (Nat × List Value)) (sb : List (Nat × Nat)) (NC NS : Nat) (nc : List (Nat × Nat)) (mt : List ab_M) : Nat → Nat → Nat → Nat → ab_L → List Value → ab_H → Option (ab_O × ab_H)
  | 0, _, _, _, _, _, _ => none
  | n + 1, d, mi, pc, L, S, h => match mt[mi]? with
    | none => none
    | some M => match ab_fe M pc with
      | none => none
      | some (i, _, tg) => match ab_s1 (my_l M) i pc tg L S with
        | some (pc', L', S') => ab_run cl ct cd aty oa oo sb NC NS nc mt n d mi pc' L' S' h
        | none => match ab_s2 cl ct cd aty oa NC NS (my_p M) ((my_y M).name == "<init>") i pc S h with
          | some (pc', S', h') => ab_run cl ct cd aty oa oo sb NC NS nc mt n d mi pc' L S' h'
          | none => match ab_rt M i S with
            | some v => some (.inl v, h)
            | none => match ab_sw pc i S with
              | some (pc', S') => ab_run cl ct cd aty oa oo sb NC NS nc mt n d mi pc' L S' h
              | none => match ab_ob (my_p M) i S with
                | some S' => ab_run cl ct cd aty oa oo sb NC NS nc mt n d mi (pc + 3) L S' h
                | none => match ab_cs cl mt (my_p M) i S h with
                  | some (j, as, r) => (match d, mt[j]? with
                    | d' + 1, some N => if ab_wt r + my_l N + 11 ≤ 64 ∧ (lg_sl as).length ≤ my_l N ∧ j ≠ 0 then (match ab_run cl ct cd aty oa oo sb NC NS nc mt n d' j 0 (lv_args 0 as) [] h with
                        | some (.inl v, h') => ab_run cl ct cd aty oa oo sb NC NS nc mt n d mi (pc + 3) L (v.toList ++ r) h'
                        | some (.inr (ce, q), h') => if my_h M = [] then some (.inr (ce, q), h') else if ab_isx h' q ce = true then (match ab_hd M nc pc ce (my_h M) with
                          | some hp => ab_run cl ct cd aty oa oo sb NC NS nc mt n d mi hp L [.ref q] h'
                          | none => none) else none
                        | none => none) else none
                    | _, _ => none)
                  | none => match ab_th M pc with
                    | some (ce, _, _, _) => if h.length + 1 ≤ NC ∧ ab_sz h + 6 ≤ NS ∧ S = [] then some (.inr (ce, h.length), h ++ [.inr (ce, List.replicate 6 .null)]) else none
                    | none => match ab_th0 M pc with
                      | some (ce, _, _) => if h.length + 1 ≤ NC ∧ ab_sz h + 6 ≤ NS ∧ S = [] then some (.inr (ce, h.length), h ++ [.inr (ce, List.replicate 6 .null)]) else none
                      | none => match ab_s4 aty sb oo NC NS (my_p M) i pc tg S h with
                        | some (pc', S', h') => ab_run cl ct cd aty oa oo sb NC NS nc mt n d mi pc' L S' h'
                        | none => none
end
section
section AB5
variable {p : Program} {l : Launch} {e : Env} {R : Room} {s : State} {m : MethodId} {args : Array Value} {below : List Frame} {meth : Method} {c : Code} {T : State} {H : Heap} {locs : List Loc} {cells slots : Nat} {Q : State → Prop}
variable {B n0 z0 NC NS pc len : Nat} {od : Nat → Nat} {h h' : ab_H} {D : va_G} {dA : Nat → ClassId} {cl : List vw_C} {M : ab_M} {i : Instr} {S S' : List Value} {ls : Array Slot} {cc : ByteArray}
theorem ab_W.mono {Q' : State → Prop} {g : JFrame} (w : W p l e R s m args below meth c H locs cells slots Q g) (hq : ∀ t, Q t → Q' t) : W p l e R s m args below meth c H locs cells slots Q' g := fun T hT X => by
  obtain ⟨t, a, b⟩ := w T hT X
  exact ⟨t, a, hq t b⟩
theorem ab_MQ (hR : ab_R B od D dA cl NC NS s.heap n0 z0 h H locs cells slots) {o : ab_O} {t : State} (hq : MQ below (fun _ _ oc t => oc = ab_o B od o ∧ t.heap = H) args s cells slots (fun q => B ≤ q) t) : ab_Q below s B od D dA cl NC NS n0 z0 o h t := by
  obtain ⟨oc, h1, h2, ⟨h3, h4⟩, L, ⟨-, h6, h7⟩, h8⟩ := hq
  subst h3
  refine ⟨h1, h2, h6, L, cells, slots, h7, ?_⟩
  rw [h4]
  exact ⟨hR.1, hR.2.1, ⟨hR.2.2.1.1, hR.2.2.1.2.1, h8⟩, hR.2.2.2⟩
set_option maxHeartbeats 2000000 in
theorem ab_rt_ok (hx : p.tables.exec = Jvm.exec) (hb : c.code = cc) (hr : meth.sig.returnType = my_r M) (hlocks : meth.locks = false) (hdg : decode cc pc = .ok (i, len)) (hlen : ab_len i = 0 ∨ len = ab_len i) {v : Option Value} (hs : ab_rt M i S = some v) (hR : ab_R B od D dA cl NC NS s.heap n0 z0 h H locs cells slots) :
    W p l e R s m args below meth c H locs cells slots (ab_Q below s B od D dA cl NC NS n0 z0 (.inl v) h) (F0 m pc ls (S.map (ab_v B od))) := by
  have hf : ∀ q ∈ locs, B ≤ q.base := hR.2.2.1.2.2
  unfold ab_rt at hs
  split at hs
  · rename_i x
    have hl : len = 1 := by rcases hlen with q | q; exact absurd q (by decide); exact q
    subst hl
    split at hs
    · rename_i ty hty
      split at hs
      · rename_i hft
        cases hs
        exact ab_W.mono (W.zret (v := x) (Qc := fun _ _ oc t => oc = ab_o B od (.inl (some (.int x))) ∧ t.heap = H) (free := fun q => B ≤ q) hx hb (hr.trans hty) (ab_ft_ok (B := B) (od := od) hft).1 (fun t ht _ => ⟨rfl, ht⟩) hf hdg) (fun t => ab_MQ hR)
      · cases hs
    · cases hs
  · rename_i x
    have hl : len = 1 := by rcases hlen with q | q; exact absurd q (by decide); exact q
    subst hl
    split at hs
    · rename_i hty
      cases hs
      exact ab_W.mono (W.lret (v := x) (Qc := fun _ _ oc t => oc = ab_o B od (.inl (some (.long x))) ∧ t.heap = H) (free := fun q => B ≤ q) hx hb (hr.trans hty) (fun t ht _ => ⟨rfl, ht⟩) hf hdg) (fun t => ab_MQ hR)
    · cases hs
  · rename_i x
    have hl : len = 1 := by rcases hlen with q | q; exact absurd q (by decide); exact q
    subst hl
    split at hs
    · rename_i nm hty
      cases hs
      exact ab_W.mono (W.aret (v := .ref (B + x)) (Qc := fun _ _ oc t => oc = ab_o B od (.inl (some (.ref x))) ∧ t.heap = H) (free := fun q => B ≤ q) hx hb (hr.trans hty) (Or.inl ⟨_, rfl⟩) (Or.inr ⟨_, rfl⟩) (fun t ht _ => ⟨rfl, ht⟩) hf hdg) (fun t => ab_MQ hR)
    · rename_i nm hty
      cases hs
      exact ab_W.mono (W.aret (v := .ref (B + x)) (Qc := fun _ _ oc t => oc = ab_o B od (.inl (some (.ref x))) ∧ t.heap = H) (free := fun q => B ≤ q) hx hb (hr.trans hty) (Or.inr ⟨_, rfl⟩) (Or.inr ⟨_, rfl⟩) (fun t ht _ => ⟨rfl, ht⟩) hf hdg) (fun t => ab_MQ hR)
    · cases hs
  · have hl : len = 1 := by rcases hlen with q | q; exact absurd q (by decide); exact q
    subst hl
    split at hs
    · rename_i nm hty
      cases hs
      exact ab_W.mono (W.aret (v := .null) (Qc := fun _ _ oc t => oc = ab_o B od (.inl (some .null)) ∧ t.heap = H) (free := fun q => B ≤ q) hx hb (hr.trans hty) (Or.inl ⟨_, rfl⟩) (Or.inl rfl) (fun t ht _ => ⟨rfl, ht⟩) hf hdg) (fun t => ab_MQ hR)
    · rename_i nm hty
      cases hs
      exact ab_W.mono (W.aret (v := .null) (Qc := fun _ _ oc t => oc = ab_o B od (.inl (some .null)) ∧ t.heap = H) (free := fun q => B ≤ q) hx hb (hr.trans hty) (Or.inr ⟨_, rfl⟩) (Or.inl rfl) (fun t ht _ => ⟨rfl, ht⟩) hf hdg) (fun t => ab_MQ hR)
    · cases hs
  · have hl : len = 1 := by rcases hlen with q | q; exact absurd q (by decide); exact q
    subst hl
    split at hs
    · rename_i hty
      cases hs
      exact ab_W.mono (W.vret (Qc := fun _ _ oc t => oc = ab_o B od (.inl none) ∧ t.heap = H) (free := fun q => B ≤ q) hx hb (hr.trans hty) (fun t ht _ => ⟨rfl, ht⟩) hf hdg) (fun t => ab_MQ hR)
    · cases hs
  · cases hs
theorem ab_sw_ok (hx : p.tables.exec = Jvm.exec) (hb : c.code = cc) (hdg : decode cc pc = .ok (i, len)) {pc' : Nat} (hs : ab_sw pc i S = some (pc', S'))
    (k : W p l e R s m args below meth c H locs cells slots Q (F0 m pc' ls (S'.map (ab_v B od)))) : W p l e R s m args below meth c H locs cells slots Q (F0 m pc ls (S.map (ab_v B od))) := by
  unfold ab_sw at hs
  split at hs
  · rename_i dflt lo hi offs x r
    split at hs
    · rename_i hc
      split at hs
      · rename_i h0
        cases hs
        exact lv_tableOut hx hb hdg hc (by omega) k
      · cases hs
    · rename_i hc
      split at hs
      · rename_i off ho
        split at hs
        · rename_i h0
          cases hs
          exact lv_tableIn hx hb hdg (fun q => hc (Or.inl q)) (fun q => hc (Or.inr q)) ho (by omega) k
        · cases hs
      · cases hs
  · rename_i dflt ps x r
    split at hs
    · rename_i hc
      cases hs
      exact lv_lookup hx hb hdg hc.1 rfl (by omega) k
    · cases hs
  · cases hs
theorem ab_ob_ok (hx : p.tables.exec = Jvm.exec) (hb : c.code = cc) {own : String} (hown : s.vm.findClass own = some m.cls) {pl : Nat → Option ab_N} (hml : ls.size = c.maxLocals) (hfr : 1 ≤ R.frames) (hlo : 40 ≤ R.locals)
    (h5 : ∀ x a b v, pl x = some (5, a, b, v) → va_Nw (.methodLink own x Lib.objectInit) s ∧ va_Nw (.instanceMethod Lib.objectInit) s ∧ va_Nw (.code Lib.objectInit ⟨#[0xb1]⟩ 1 none) s)
    (hdg : decode cc pc = .ok (i, len)) (hlen : ab_len i = 0 ∨ len = ab_len i) (hs : ab_ob pl i S = some S')
    (k : W p l e R s m args below meth c H locs cells slots Q (F0 m (pc + 3) ls (S'.map (ab_v B od)))) : W p l e R s m args below meth c H locs cells slots Q (F0 m pc ls (S.map (ab_v B od))) := by
  unfold ab_ob at hs
  split at hs
  · rename_i x
    have hl : len = 3 := by rcases hlen with q | q; exact absurd q (by simp [ab_len]); exact q
    subst hl
    split at hs
    · rename_i a b v j r hp
      split at hs
      · rename_i hw
        cases hs
        obtain ⟨w1, w2, w3⟩ := h5 _ _ _ _ hp
        have e1 : ((S'.map (ab_v B od)).map fun v => v.category) = (S'.map fun v => v.category) := by
          rw [List.map_map]
          apply List.map_congr_left
          intro v _
          exact ab_v_cat B od v
        have e2 : ((S'.map (ab_v B od)).map fun v => v.category).sum ≤ 20 := by rw [e1]; exact hw
        refine W.objInit hx hb hown (va_Nw.use rfl w1) (va_Nw.use rfl w2) (va_Nw.use rfl w3) rfl hml rfl hdg hfr ?_ k
        have e3 : (F0 m pc ls (List.map (ab_v B od) (Value.ref j :: S'))).monitorRoom = 0 := rfl
        rw [e3]
        omega
      · cases hs
    · cases hs
  · cases hs
end AB5
end
section
/-- what the words Ts say of a method -/
def ab_mw (Ts : List Cond) (N : ab_M) : Prop :=
  ((my_h N = [] ∧ Cond.code (my_y N) (my_b N) (my_l N) (my_r N) ∈ Ts) ∨ (my_h N ≠ [] ∧ Cond.codeWith (my_y N) (my_b N) (my_l N) (my_r N) (my_h N) ∈ Ts)) ∧ Cond.initialized (my_y N).cls ∈ Ts ∧ plainName (my_y N).cls = true ∧
  ((my_y N).cls ≠ "java/lang/invoke/MethodHandle" ∧ (my_y N).cls ≠ "java/lang/invoke/VarHandle") ∧ (parseMethodDescriptor (my_y N).desc).map (fun d => d.parameters.length) = some (my_n N) ∧
  (my_s N = true → Cond.static (my_y N) ∈ Ts) ∧ (my_s N = false → Cond.instanceMethod (my_y N) ∈ Ts)
/-- the method as the tables have it -/
def ab_mf (N : ab_M) (s : State) (mk : MethodId) (methk : Method) (ck : Code) (kk : Class) : Prop :=
  s.methodNamed? (my_y N) = some mk ∧ s.vm.method? mk = some methk ∧ methk.code = some ck ∧ ck.code = my_b N ∧ ck.maxLocals = my_l N ∧ methk.sig.returnType = my_r N ∧ methk.locks = false ∧ ck.exceptionTable.toList = tableOf (my_h N) ∧ methk.sig.parameters.length = my_n N ∧
  s.vm.classes[mk.cls]? = some kk ∧ kk.name = (my_y N).cls ∧ kk.init = .initialized ∧ methk.name = (my_y N).name
theorem ab_mf_of {Ts : List Cond} {N : ab_M} {s : State} (hw : ab_mw Ts N) (hTs : ∀ w ∈ Ts, va_Nw w s) : ∃ mk methk ck kk, ab_mf N s mk methk ck kk := by
  obtain ⟨w1, w2, w3, w4, w5, w6, w7⟩ := hw
  have key : ∃ mk methk ck, s.methodNamed? (my_y N) = some mk ∧ s.vm.method? mk = some methk ∧ methk.code = some ck ∧ ck.code = my_b N ∧ ck.maxLocals = my_l N ∧ methk.sig.returnType = my_r N ∧ methk.locks = false ∧ ck.exceptionTable.toList = tableOf (my_h N) ∧ parseMethodDescriptor (my_y N).desc = some methk.sig := by
    rcases w1 with ⟨w1, w1'⟩ | ⟨-, w1⟩
    · have hc := hTs _ w1'
      obtain ⟨mk, hn⟩ := Cond.code_named hc
      obtain ⟨methk, ck, g1, g2, g3, g4, g5, g6, g7, g8⟩ := Cond.code_spec hn hc
      refine ⟨mk, methk, ck, hn, g1, g2, g3, g4, g5, g6, ?_, g8⟩
      rw [w1]
      have : ck.exceptionTable = #[] := by simpa using g7
      rw [this]; rfl
    · obtain ⟨mk, methk, ck, hn, g1, g2, g3, g4, g5, g6, g7, g8⟩ := Cond.codeWith_spec (hTs _ w1)
      refine ⟨mk, methk, ck, hn, g1, g2, g3, g4, g6, g7, ?_, ?_⟩
      · rw [← g5, table_eq]
      · first | exact g8 | exact g8.1 | exact g8.2
  obtain ⟨mk, methk, ck, hn, g1, g2, g3, g4, g5, g6, g7, g8⟩ := key
  obtain ⟨kk, hk, hnm⟩ := className_of_methodNamed hn
  have hinit := Cond.initialized_spec (findClass_of_methodNamed hn) hk (hTs _ w2)
  rw [g8] at w5
  exact ⟨mk, methk, ck, kk, hn, g1, g2, g3, g4, g5, g6, g7, by simpa using w5, hk, hnm, hinit, (name_of_methodNamed hn g1).1⟩
/-- what the words Ts say of a place in a pool that names a method -/
def ab_pm (Ts : List Cond) (mt : List ab_M) (own : String) (x : Nat) (n : ab_N) : Prop := match n with
  | (1, j, nst, _) => ∃ N : ab_M, mt[j]? = some N ∧ ((nst = 0 ∧ Cond.methodLink own x (my_y N) ∈ Ts) ∨ (nst = 1 ∧ ∃ host : String, Cond.methodLinkNest own x (my_y N) host ∈ Ts) ∨ (nst = 2 ∧ Cond.methodLink own x (my_y N) ∈ Ts ∧ Cond.selects (my_y N).cls (my_y N) (my_y N) ∈ Ts) ∨ (nst = 3 ∧ Cond.selects (my_y N).cls (my_y N) (my_y N) ∈ Ts ∧ ∃ host : String, Cond.methodLinkNest own x (my_y N) host ∈ Ts))
  | (5, _, _, _) => Cond.methodLink own x Lib.objectInit ∈ Ts ∧ Cond.instanceMethod Lib.objectInit ∈ Ts ∧ Cond.code Lib.objectInit ⟨#[0xb1]⟩ 1 none ∈ Ts
  | _ => True
section AB6
variable {p : Program} {l : Launch} {e : Env} {R : Room} {s : State} {m : MethodId} {args : Array Value} {below : List Frame} {meth : Method} {c : Code} {T : State} {H : Heap} {locs : List Loc} {cells slots : Nat} {Q : State → Prop}
variable {B n0 z0 NC NS pc len : Nat} {od : Nat → Nat} {h h' : ab_H} {D : va_G} {dA : Nat → ClassId} {cl : List vw_C} {M N : ab_M} {i : Instr} {S S' : List Value} {ls : Array Slot} {cc : ByteArray} {Ts : List Cond} {mt : List ab_M} {pl : Nat → Option ab_N} {own : String}
theorem ab_split {S : List Value} {n : Nat} : S = ((S.take n).reverse).reverse ++ S.drop n := by
  rw [List.reverse_reverse, List.take_append_drop]
/-- a call's own instruction: what it resolves, and the invocation that it makes -/
theorem ab_cs_ok (X : Stand p l e R s m args below meth c T locs cells slots) (hx : p.tables.exec = Jvm.exec) (hb : c.code = cc) (hown : s.vm.findClass own = some m.cls) (hTs : ∀ w ∈ Ts, va_Nw w s) (hKC : ab_KC D cl s) (hw : ab_mw Ts N) (hpm : ∀ x n, pl x = some n → ab_pm Ts mt own x n)
    (hdg : decode cc pc = .ok (i, len)) (hlen : ab_len i = 0 ∨ len = ab_len i) (hR : ab_R B od D dA cl NC NS s.heap n0 z0 h T.heap locs cells slots) {j : Nat} {as r : List Value} (hs : ab_cs cl mt pl i S h = some (j, as, r)) (hN : mt[j]? = some N) :
    len = 3 ∧ ∃ (vm₁ : Vm) (mk : MethodId) (methk : Method) (ck : Code) (kk : Class), ab_mf N s mk methk ck kk ∧ s.WarmedH vm₁ ∧ Stand p l e R s m args below meth c (T.setVm vm₁) locs cells slots ∧
      ∀ target, (∀ acts, Steps p.tables e below (doInvoke e ((T.setVm vm₁).setTop (F0 m pc ls (r.map (ab_v B od)))) acts mk (as.map (ab_v B od)).toArray).1 target) → Steps p.tables e below (T.setTop (F0 m pc ls (S.map (ab_v B od)))) target := by
  subst hb
  obtain ⟨mk, methk, ck, kk, hmf⟩ := ab_mf_of hw hTs
  have hmf' := hmf
  obtain ⟨f1, f2, f3, f4, f5, f6, f7, f8, f9, f10, f11, f12, f13⟩ := hmf
  obtain ⟨w1, w2, w3, w4, w5, w6, w7⟩ := hw
  unfold ab_cs at hs
  split at hs
  · rename_i x
    have hl : len = 3 := by rcases hlen with q | q; exact absurd q (by simp [ab_len]); exact q
    subst hl
    refine ⟨rfl, ?_⟩
    split at hs
    · rename_i j' nst v hp
      split at hs
      · rename_i N' hN'
        split at hs
        · rename_i hc
          cases hs
          cases hN.symm.trans hN'
          obtain ⟨N2, hN2, hl2⟩ := hpm _ _ hp
          cases hN.symm.trans hN2
          have hst : methk.isStatic = true := Cond.static_spec f1 f2 (hTs _ (w6 hc.1))
          have hlenA : (((S.take (my_n N)).reverse).map (ab_v B od)).length = methk.sig.parameters.length := by
            rw [f9]; simp; omega
          have hstk : (F0 m pc ls (S.map (ab_v B od))).stack = (((S.take (my_n N)).reverse).map (ab_v B od)).reverse ++ (S.drop (my_n N)).map (ab_v B od) := by
            show S.map (ab_v B od) = _
            rw [← List.map_reverse, List.reverse_reverse, ← List.map_append, List.take_append_drop]
          rcases hl2 with ⟨-, q⟩ | ⟨-, host, q⟩ | ⟨-, q, -⟩ | ⟨-, -, host, q⟩
          · obtain ⟨vm₁, X₁, st⟩ := X.invokestatic hx hown (va_Nw.use rfl (hTs _ q)) f1 f2 hst f10 f12 w4 (g := F0 m pc ls (S.map (ab_v B od))) rfl hlenA hstk hdg
            exact ⟨vm₁, mk, methk, ck, kk, hmf', X₁.warmed, X₁, st⟩
          · obtain ⟨vm₁, X₁, st⟩ := X.invokestaticNest hx hown (va_Nw.use rfl (hTs _ q)) f1 f2 hst f10 f12 w4 (g := F0 m pc ls (S.map (ab_v B od))) rfl hlenA hstk hdg
            exact ⟨vm₁, mk, methk, ck, kk, hmf', X₁.warmed, X₁, st⟩
          · obtain ⟨vm₁, X₁, st⟩ := X.invokestatic hx hown (va_Nw.use rfl (hTs _ q)) f1 f2 hst f10 f12 w4 (g := F0 m pc ls (S.map (ab_v B od))) rfl hlenA hstk hdg
            exact ⟨vm₁, mk, methk, ck, kk, hmf', X₁.warmed, X₁, st⟩
          · obtain ⟨vm₁, X₁, st⟩ := X.invokestaticNest hx hown (va_Nw.use rfl (hTs _ q)) f1 f2 hst f10 f12 w4 (g := F0 m pc ls (S.map (ab_v B od))) rfl hlenA hstk hdg
            exact ⟨vm₁, mk, methk, ck, kk, hmf', X₁.warmed, X₁, st⟩
        · cases hs
      · cases hs
    · cases hs
  · rename_i x
    have hl : len = 3 := by rcases hlen with q | q; exact absurd q (by simp [ab_len]); exact q
    subst hl
    refine ⟨rfl, ?_⟩
    split at hs
    · rename_i j' nst v hp
      split at hs
      · rename_i N' hN'
        split at hs
        · rename_i q0 r0 hdr
          split at hs
          · rename_i ci fs hq
            split at hs
            · rename_i hc
              obtain ⟨hc1, hc2, hc3, hc4⟩ := hc
              cases hs
              cases hN.symm.trans hN'
              obtain ⟨N2, hN2, hl2⟩ := hpm _ _ hp
              cases hN.symm.trans hN2
              obtain ⟨mk', meth', g1, g2, g3, g4⟩ := Cond.instanceMethod_spec (hTs _ (w7 hc1))
              cases f1.symm.trans g1
              cases f2.symm.trans g2
              obtain ⟨r1, hr1, cell, q1, q2, q3, q4⟩ := hR.1 q0 _ hq
              have hcn : r1.1 = (my_y N).cls := by rw [hr1] at hc3; simpa using hc3
              have hcls : s.vm.findClass (my_y N).cls = some cell.cls := by rw [q2, ← hcn]; exact (hKC ci r1 hr1).1.2.1
              have hobj : ∀ z, cell.vm ≠ .statics z := fun z hz => by rw [q3] at hz; cases hz
              have hlenA : (((S.take (my_n N)).reverse).map (ab_v B od)).length = methk.sig.parameters.length := by
                rw [f9]; simp; omega
              have hstk : (F0 m pc ls (S.map (ab_v B od))).stack = (((S.take (my_n N)).reverse).map (ab_v B od)).reverse ++ .ref (B + q0) :: r.map (ab_v B od) := by
                show S.map (ab_v B od) = _
                rw [← List.map_reverse, List.reverse_reverse]
                have : S = S.take (my_n N) ++ (.ref q0 :: r) := by rw [← hdr, List.take_append_drop]
                conv => lhs; rw [this]
                rw [List.map_append]
                rfl
              have selOf : Cond.selects (my_y N).cls (my_y N) (my_y N) ∈ Ts → selectMethod e.platform s.vm cell.cls mk = .method mk ∧ kk.isInterface = false := fun q => by
                obtain ⟨c2, r2, m2, q1', q2', q3', q4', kP, hkP, hkPi⟩ := Cond.selects_spec (hTs _ q)
                cases hcls.symm.trans q1'
                cases (State.methodFound?_of_named f1 w4).symm.trans q2'
                cases f1.symm.trans q3'
                cases f10.symm.trans hkP
                exact ⟨by rw [Launch.admits_selectMethod X.admits]; exact q4', hkPi⟩
              rcases hl2 with ⟨h0, q⟩ | ⟨h0, host, q⟩ | ⟨-, q, qs⟩ | ⟨-, qs, host, q⟩
              · rw [h0] at hc4; rcases hc4 with z | z <;> cases z
              · rw [h0] at hc4; rcases hc4 with z | z <;> cases z
              · obtain ⟨hsel, hni⟩ := selOf qs
                obtain ⟨vm₁, X₁, st⟩ := X.invokevirtual hx hown (va_Nw.use rfl (hTs _ q)) f1 f2 g3 f10 hni w4 (a := B + q0) (cell := cell) q1 hobj hsel f2 g4 f10 hni (g := F0 m pc ls (S.map (ab_v B od))) rfl hlenA hstk hdg
                exact ⟨vm₁, mk, methk, ck, kk, hmf', X₁.warmed, X₁, st⟩
              · obtain ⟨hsel, hni⟩ := selOf qs
                obtain ⟨vm₁, X₁, st⟩ := X.invokevirtualNest hx hown (va_Nw.use rfl (hTs _ q)) f1 f2 g3 f10 hni w4 (a := B + q0) (cell := cell) q1 hobj hsel f2 g4 f10 hni (g := F0 m pc ls (S.map (ab_v B od))) rfl hlenA hstk hdg
                exact ⟨vm₁, mk, methk, ck, kk, hmf', X₁.warmed, X₁, st⟩
            · cases hs
          · cases hs
        · cases hs
      · cases hs
    · cases hs
  · rename_i x
    have hl : len = 3 := by rcases hlen with q | q; exact absurd q (by simp [ab_len]); exact q
    subst hl
    refine ⟨rfl, ?_⟩
    split at hs
    · rename_i j' nst v hp
      split at hs
      · rename_i N' hN'
        split at hs
        · rename_i q0 r0 hdr
          split at hs
          · rename_i hc
            obtain ⟨hc1, hc2, hc3, hc4, hc5⟩ := hc
            cases hs
            cases hN.symm.trans hN'
            obtain ⟨N2, hN2, hl2⟩ := hpm _ _ hp
            cases hN.symm.trans hN2
            have hcode : va_Nw (.code (my_y N) (my_b N) (my_l N) none) s := by
              rcases w1 with ⟨-, q⟩ | ⟨q, -⟩
              · rw [hc4] at q; exact hTs _ q
              · exact absurd hc5 q
            have hpl : e.platform.magicAccessors = ({} : Platform).magicAccessors := by rw [X.admits.platform]
            have hlenA : ∀ sig, parseMethodDescriptor (my_y N).desc = some sig → (((S.take (my_n N)).reverse).map (ab_v B od)).length = sig.parameters.length := fun sig hsig => by
              rw [hsig] at w5
              have : sig.parameters.length = my_n N := by simpa using w5
              rw [this]; simp; omega
            have hstk : (F0 m pc ls (S.map (ab_v B od))).stack = (((S.take (my_n N)).reverse).map (ab_v B od)).reverse ++ .ref (B + q0) :: r.map (ab_v B od) := by
              show S.map (ab_v B od) = _
              rw [← List.map_reverse, List.reverse_reverse]
              have : S = S.take (my_n N) ++ (.ref q0 :: r) := by rw [← hdr, List.take_append_drop]
              conv => lhs; rw [this]
              rw [List.map_append]
              rfl
            have hq : Cond.methodLink own x (my_y N) ∈ Ts ∨ ∃ host, Cond.methodLinkNest own x (my_y N) host ∈ Ts := by
              rcases hl2 with ⟨-, q⟩ | ⟨-, host, q⟩ | ⟨-, q, -⟩ | ⟨-, -, host, q⟩
              · exact Or.inl q
              · exact Or.inr ⟨host, q⟩
              · exact Or.inl q
              · exact Or.inr ⟨host, q⟩
            rcases hq with q | ⟨host, q⟩
            · obtain ⟨tm, meth2, cd2, k2, vm₁, e1, e2, e3, e4, e5, e6, e7, e8, hW₁, st⟩ := Steps.initColdArgs (e := e) X.here hx X.warmed hpl hown hc3 w4 (va_Nw.use (A := args) rfl (hTs _ q)) (va_Nw.use rfl (hTs _ (w7 hc1))) (va_Nw.use rfl hcode) (f := F0 m pc ls (S.map (ab_v B od))) rfl hlenA hstk hdg
              cases f1.symm.trans e1
              exact ⟨vm₁, mk, methk, ck, kk, hmf', hW₁, X.noted hW₁, st⟩
            · obtain ⟨tm, meth2, cd2, k2, vm₁, e1, e2, e3, e4, e5, e6, e7, e8, hW₁, st⟩ := Steps.initColdArgsNest (e := e) X.here hx X.warmed hpl hown hc3 w4 (va_Nw.use (A := args) rfl (hTs _ q)) (va_Nw.use rfl (hTs _ (w7 hc1))) (va_Nw.use rfl hcode) (f := F0 m pc ls (S.map (ab_v B od))) rfl hlenA hstk hdg
              cases f1.symm.trans e1
              exact ⟨vm₁, mk, methk, ck, kk, hmf', hW₁, X.noted hW₁, st⟩
          · cases hs
        · cases hs
      · cases hs
    · cases hs
  · cases hs
end AB6
end
section
/-! handlers: the search of a method's table, its catch types resolved or not -/
section AB6A
variable {e : Env} {s u : State} {g : JFrame} {a : Addr}
/-- a row of the table whose catch type is resolved by the search itself -/
theorem ab_go_cold {x : ExceptionTableEntry} {t : List ExceptionTableEntry} {c : ClassId} {vm' : Vm} {Q : Handler → Pre} {E : CtlPost} {d : Bool} {acts : List Action} (hx : covers x g.pc = true) (h0 : x.catchType ≠ 0)
    (hg : (Jvm.resolveClass g.method.cls x.catchType).Gives e.toSetting u.vm (.ok c) vm') (hr : vm'.classReady g.method.cls x.catchType c) (hsz : vm'.classes.size ≤ u.vm.classes.size) :
    wp (findHandler.go g a (x :: t)) Q E e d acts u ↔ wp (findHandler.go g a (x :: t)) Q E e d acts (u.setVm vm') := by
  obtain ⟨ha, ht⟩ := hg.op (op := VmOp.resolveClass g.method.cls x.catchType) rfl
  simp only [covers] at hx
  obtain ⟨k, hkd, hres⟩ := hr
  have q := resolveClass_memo (vm := vm') e hkd hres
  have l1 : (VmOp.resolveClass g.method.cls x.catchType).lands e u = .done (u.setVm vm') := VmOp.lands_eq ht hsz
  have l2 : (VmOp.resolveClass g.method.cls x.catchType).lands e (u.setVm vm') = .done (u.setVm vm') := VmOp.lands_eq (s := u.setVm vm') q.2 (Nat.le_refl _)
  have q1 : (VmOp.resolveClass g.method.cls x.catchType).answer e (u.setVm vm').vm = .ok c := q.1
  simp [findHandler.go, hx, h0, ha, l1, l2, q1, q.1, VmOp.dirties, VmOp.acts]
/-- what the search gives, and the tables that it leaves -/
def ab_Fd (e : Env) (u : State) (g : JFrame) (a : Addr) (hd : Handler) (vm' : Vm) : Prop :=
  ∀ (Q : Handler → Pre) (E : CtlPost) (d : Bool) (acts : List Action), wp (findHandler g a) Q E e d acts u ↔ Q hd d acts (u.setVm vm')
theorem ab_step_catch {r : List Frame} {pc : Nat} {vm' : Vm} (hfind : ab_Fd e u g a (.found pc) vm') :
    (stepThrowing e u a (.java g :: r)).Is ((u.setVm vm').setFrames (.java { g with pc := pc, stack := [.ref a] } :: r)) [] := by
  simp only [stepThrowing, searchFrame, vmDo]
  generalize hr : Sem.go _ e false [] u = res
  obtain ⟨as, rfl, ha⟩ := Sem.eq_ok_of hr (a := Handler.found pc) (s' := u.setVm vm') (acts' := []) (by simp [hfind _ _ _ _])
  exact ⟨rfl, ha⟩
theorem ab_caught {tb : Tables} {T target : State} {c : Code} {below : List Frame} {pc : Nat} {vm' : Vm} (h : At T g.method c below) (hfind : ab_Fd e ((T.setTop g).pushFrame (.throwing a)) g a (.found pc) vm')
    (hrest : Steps tb e below ((T.setVm vm').setTop { g with pc := pc, stack := [.ref a] }) target) :
    Steps tb e below ((T.setTop g).pushFrame (.throwing a)) target := by
  obtain ⟨hgo, hw⟩ := h.throwing a
  refine Steps.head hgo hw ?_
  rw [stepThread_throwing (frames_entered h.top _), (ab_step_catch (u := (T.setTop g).pushFrame (.throwing a)) hfind).1]
  obtain ⟨g₀, hg⟩ := Option.isSome_iff_exists.mp h.top
  obtain ⟨r, hr⟩ := State.topJava?_eq_some.mp hg
  have hr' : (T.setVm vm').frames = .java g₀ :: r := hr
  rw [State.setTop_of_frames _ hr'] at hrest
  have e0 : (((T.setTop g).pushFrame (.throwing a)).setVm vm').setFrames (.java { g with pc := pc, stack := [.ref a] } :: T.frames.tail) = (T.setVm vm').setFrames (.java { g with pc := pc, stack := [.ref a] } :: r) := by
    rw [hr]
    show (((T.setTop g).pushFrame (.throwing a)).setFrames _).setVm vm' = (T.setFrames _).setVm vm'
    rw [State.pushFrame, State.setFrames_setFrames, State.setTop_of_frames _ hr, State.setFrames_setFrames]
    rfl
  rw [e0]
  exact hrest
variable {D : va_G} {cl : List vw_C} {Ts : List Cond} {M : ab_M} {nc : List (Nat × Nat)} {own : String}
/-- what the words say of a catch type's entry -/
def ab_p11 (cl : List vw_C) (Ts : List Cond) (own : String) (x : Nat) (n : ab_N) : Prop := match n with
  | (11, cj, _, _) => x ≠ 0 ∧ ∃ r : vw_C, cl[cj]? = some r ∧ Cond.classLink own x r.1 ∈ Ts
  | _ => True
def ab_NCs (D : va_G) (nc : List (Nat × Nat)) (s : State) : Prop := ∀ i j, (i, j) ∈ nc → s.vm.assignable (D.1 i) (D.1 j) = false
theorem ab_srch (hpl : e.platform.magicAccessors = ({} : Platform).magicAccessors) (hown : s.vm.findClass own = some g.method.cls) (hTs : ∀ w ∈ Ts, va_Nw w s) (hKC : ab_KC D cl s) (hNC : ab_NCs D nc s) (hp11 : ∀ x n, my_p M x = some n → ab_p11 cl Ts own x n) {ce hp : Nat} {cell : Cell} (hcls : cell.cls = D.1 ce) (hobj : ∀ k, cell.vm ≠ .statics k) (hce : ∃ r, cl[ce]? = some r) :
    ∀ (hs : List (Nat × Nat × Nat × Nat)) (u : State), s.WarmedH u.vm → u.heap[a]? = some cell → ab_hd M nc g.pc ce hs = some hp → ∃ vm' : Vm, s.WarmedH vm' ∧ ∀ (Q : Handler → Pre) (E : CtlPost) (d : Bool) (acts : List Action), wp (findHandler.go g a (tableOf hs)) Q E e d acts u ↔ Q (.found hp) d acts (u.setVm vm') := by
  intro hs
  induction hs with
  | nil => intro u _ _ h; simp [ab_hd] at h
  | cons q r ih =>
    intro u hW hcell hh
    have et : tableOf (q :: r) = (⟨q.1, q.2.1, q.2.2.1, q.2.2.2⟩ : ExceptionTableEntry) :: tableOf r := rfl
    rw [et]
    unfold ab_hd at hh
    split at hh
    · rename_i hcov
      have hcv : covers (⟨q.1, q.2.1, q.2.2.1, q.2.2.2⟩ : ExceptionTableEntry) g.pc = true := by simp [covers, hcov.1, hcov.2]
      split at hh
      · rename_i cj _ _ hpx
        obtain ⟨hx0, r1, hr1, hl1⟩ := hp11 _ _ hpx
        obtain ⟨c, hfc, hcl⟩ := Cond.classLink_spec (args := #[]) hown (hTs _ hl1) e.platform hpl
        obtain ⟨hg1, hwarm, hready⟩ := State.classEntry (e := e) hW hcl
        generalize u.vm.noted g.method.cls q.2.2.2 (.cls c) = vm₁ at hg1 hwarm hready
        have hsz : vm₁.classes.size ≤ u.vm.classes.size := by
          have e1 := hwarm.alike.2.1
          have e2 := hW.alike.2.1
          omega
        obtain ⟨hKn, -⟩ := hKC cj r1 hr1
        have hcj : c = D.1 cj := Option.some.inj (hfc.symm.trans hKn.2.1)
        obtain ⟨rc, hrc⟩ := hce
        obtain ⟨hKc, -⟩ := hKC ce rc hrc
        obtain ⟨kc, hkc, -⟩ := hKc.2.2
        obtain ⟨kj, hkj, -⟩ := hKn.2.2
        obtain ⟨kc', hkc', -⟩ := hwarm.alike.2.2 _ _ hkc
        obtain ⟨kj', hkj', -⟩ := hwarm.alike.2.2 _ _ hkj
        have hasg : (u.setVm vm₁).vm.assignable cell.cls c = s.vm.assignable (D.1 ce) (D.1 cj) := by
          show vm₁.assignable cell.cls c = _
          rw [hwarm.alike.assignable, hcls, hcj]
        have one : ∀ (Q : Handler → Pre) (E : CtlPost) (d : Bool) (acts : List Action), wp (findHandler.go g a ((⟨q.1, q.2.1, q.2.2.1, q.2.2.2⟩ : ExceptionTableEntry) :: tableOf r)) Q E e d acts u ↔ if s.vm.assignable (D.1 ce) (D.1 cj) = true then Q (.found q.2.2.1) d acts (u.setVm vm₁) else wp (findHandler.go g a (tableOf r)) Q E e d acts (u.setVm vm₁) := by
          intro Q E d acts
          rw [ab_go_cold hcv hx0 hg1 hready hsz, W.findHandler_go_class (s := u.setVm vm₁) (c := c) (cell := cell) hcv hx0 hready hcell hobj ⟨kc', by rw [hcls]; exact hkc'⟩ ⟨kj', by rw [hcj]; exact hkj'⟩, hasg]
        split at hh
        · rename_i hcc
          subst hcc
          cases hh
          refine ⟨vm₁, hwarm, fun Q E d acts => ?_⟩
          rw [one, if_pos (va_assign hKc.2)]
        · split at hh
          · rename_i hin
            obtain ⟨vm2, hW2, h2⟩ := ih (u.setVm vm₁) hwarm hcell hh
            refine ⟨vm2, hW2, fun Q E d acts => ?_⟩
            rw [one, if_neg (by rw [hNC _ _ hin]; decide), h2]
            rfl
          · cases hh
      · cases hh
    · rename_i hcov
      obtain ⟨vm2, hW2, h2⟩ := ih u hW hcell hh
      refine ⟨vm2, hW2, fun Q E d acts => ?_⟩
      rw [W.findHandler_go_skip (by
        simp only [covers]
        rw [Bool.eq_false_iff]
        intro z
        apply hcov
        simpa using z), h2]
end AB6A
end
section
/-! throws of one's own: throw new E("text") -/
/-- a static field that holds a reference or null, in a cell below B -/
def ab_LS (B : Nat) (O f d : String) (s : State) (H : Heap) : Prop := ∃ (c : ClassId) (k : Class) (i : Nat) (fd : Field) (a : Nat) (cell : Cell) (v : Value), s.vm.findClass O = some c ∧ s.fieldFound? O f d = some (c, k, i, fd) ∧ fd.isStatic = true ∧ k.statics = some a ∧ H[a]? = some cell ∧ cell.vm.isStatics = true ∧ cell.cls = c ∧ fd.slot < cell.slots.size ∧ k.staticTypes[fd.slot]? = some fd.type ∧ a < B ∧ cell.slots[fd.slot]? = some v ∧ (v = .null ∨ ∃ x, v = .ref x)
theorem ab_LS.kept {B : Nat} {O f d : String} {s U : State} {H H1 : Heap} (h : ab_LS B O f d s H) (hvm : s.vm.Alike U.vm) (hk : ∀ q, q < H.size → ¬ B ≤ q → H1[q]? = H[q]?) : ab_LS B O f d U H1 := by
  obtain ⟨c, k, i, fd, a, cell, v, h1, h2, h3, h4, h5, h6, h7, h8, h9, h10, h11⟩ := h
  obtain ⟨k', hi', he⟩ := State.fieldFound?_setVm hvm h2
  exact ⟨c, k', i, fd, a, cell, v, by rw [hvm.findClass]; exact h1, hi', h3, by rw [he]; exact h4, (hk a (Array.getElem?_eq_some_iff.mp h5).1 (by omega)).trans h5, h6, h7, h8, by rw [he]; exact h9, h10, h11⟩
theorem ab_LS.lays {B : Nat} {O f d : String} {s : State} (h : ab_LS B O f d s s.heap) (A : Array Value) : (Cond.laysStatic O f d).before A s = true := by
  obtain ⟨c, k, i, fd, a, cell, v, h1, h2, h3, h4, h5, h6, h7, h8, h9, h10, h11, h12⟩ := h
  simp [Cond.before, Cond.holds, Cond.value, h1, h2, h3, h4, h5, h6, h7, h8, h9]
theorem ab_LS.isRef {B : Nat} {O f d : String} {s : State} (h : ab_LS B O f d s s.heap) (A : Array Value) : (Cond.isRef (.static O f d)).before A s = true := by
  obtain ⟨c, k, i, fd, a, cell, v, h1, h2, h3, h4, h5, h6, h7, h8, h9, h10, h11, h12⟩ := h
  have he : (Term.static O f d).eval A s none [] s = some v := by simp [Term.eval, State.fieldNamed?, h2, h3, h4, h5, h6, h11]
  simp only [Cond.before, Cond.holds, Cond.value, he]
  rcases h12 with e | ⟨x, e⟩ <;> simp [e]
theorem ab_LS.of {B : Nat} {O f d : String} {s : State} {A : Array Value} (h1 : (Cond.laysStatic O f d).before A s = true) (h2 : (Cond.isRef (.static O f d)).before A s = true) (hB : s.heap.size ≤ B) : ab_LS B O f d s s.heap := by
  obtain ⟨c, k, i, fd, a, cell, hc, hf, hst, hsta, hcell, hiss, hcls, hlt, hty⟩ := Cond.laysStatic_spec h1
  obtain ⟨v, hv, hr⟩ := Cond.isRef_spec h2
  have he : (Term.static O f d).eval A s none [] s = cell.slots[fd.slot]? := by simp [Term.eval, State.fieldNamed?, hf, hst, hsta, hcell, hiss]
  refine ⟨c, k, i, fd, a, cell, v, hc, hf, hst, hsta, hcell, hiss, hcls, hlt, hty, Nat.lt_of_lt_of_le (Array.getElem?_eq_some_iff.mp hcell).1 hB, he.symm.trans hv, ?_⟩
  cases v <;> first | (exact Or.inl rfl) | (exact Or.inr ⟨_, rfl⟩) | (simp [Value.isRef] at hr; done)
theorem ab_sb {T u : State} {fs : List Frame} {L : List Loc} {k n : Nat} (h : (T.setFrames fs).sameButNew u L k n) : T.sameButNew u L k n := by
  obtain ⟨h1, h2, h3, h4, h5, h6⟩ := h
  refine ⟨?_, h2, h3, h4, h5, h6⟩
  rw [State.setFrames_setFrames] at h1
  exact h1
/-- nothing that was there has changed -/
theorem ab_sb_heap {T u : State} {k n : Nat} (h : T.sameButNew u [] k n) {q : Nat} (hq : q < T.heap.size) : u.heap[q]? = T.heap[q]? := by
  obtain ⟨h1, h2, h3, h4, h5, h6⟩ := h
  obtain ⟨c', g1, g2, g3, g4⟩ := h6 q T.heap[q] (Array.getElem?_eq_getElem hq)
  rw [g1, Array.getElem?_eq_getElem hq]
  congr 1
  rw [g2]
  have e : c'.slots = T.heap[q].slots := by
    apply Array.ext_getElem?
    intro i
    exact g4 i (by simp)
  rw [e]
end
section
/-- what holds of a state: the words, the classes, the arrays' classes, the constants -/
def ab_F (D : va_G) (dA : Nat → ClassId) (cl : List vw_C) (aty : List FieldType) (od : Nat → Nat) (Ts : List Cond) (nc : List (Nat × Nat)) (mt : List ab_M) (s : State) : Prop :=
  (∀ w ∈ Ts, va_Nw w s) ∧ ab_KC D cl s ∧ ab_KA dA aty s ∧ ab_NCs D nc s ∧ (∀ (t : Nat) (C : String), aty[t]? = some (.object C) → va_AO C s) ∧ ∀ M ∈ mt, ∀ x a b w, my_p M x = some (7, a, b, .float w) → ∃ tx : String, vk_R (my_y M).cls x tx (od w.toNat) s
def ab_good (w : Cond) : Prop := w.onTables = true ∧ w.keepsFace = true
theorem ab_F.warm {D : va_G} {dA : Nat → ClassId} {cl : List vw_C} {aty : List FieldType} {od : Nat → Nat} {Ts : List Cond} {nc : List (Nat × Nat)} {mt : List ab_M} {s U : State} (hg : ∀ w ∈ Ts, ab_good w) (hu : ∀ (ci : Nat) (r : vw_C), cl[ci]? = some r → ∀ w ∈ u_ws r.1 r.2.1 r.2.2, w ∈ Ts) (hW : s.WarmedH U.vm) (h : ab_F D dA cl aty od Ts nc mt s) : ab_F D dA cl aty od Ts nc mt U := by
  obtain ⟨h1, h2, h3, h5, h6, h4⟩ := h
  have g1 : ∀ w ∈ Ts, ∀ A, w.before A U = true := fun w hw A => va_tabs (hg w hw).1 (rfl : (s.setVm U.vm).vm = U.vm) (Cond.before_shiftedFace (args := #[]) (State.Shifted.of_warmed hW) w (hg w hw).2 (h1 w hw))
  refine ⟨fun w hw => g1 w hw #[], fun ci r hr => ⟨u_Kn_moved hW.alike (h2 ci r hr).1, fun A w hw => g1 w (hu ci r hr w hw) A⟩, fun t ty ht => ⟨arrOfT_moved hW.alike (h3 t ty ht).1, (h3 t ty ht).2.1.moved hW.alike, fun hp => word_at (args := #[]) hW (Or.inr ⟨ty, rfl⟩) ((h3 t ty ht).2.2 hp)⟩, fun i j hij => by rw [hW.alike.assignable]; exact h5 i j hij, fun t C ht => (h6 t C ht).moved hW.alike, fun M hM x a b w hp => ?_⟩
  obtain ⟨tx, q⟩ := h4 M hM x a b w hp
  exact ⟨tx, q.warm hW⟩
theorem ab_OO.kept {B : Nat} {od : Nat → Nat} {cl : List vw_C} {oo : Nat → Option (Nat × List Value)} {s U : State} {H H1 : Heap} (h : ab_OO B od cl oo s H) (hvm : s.vm.Alike U.vm) (hk : ∀ q, q < H.size → ¬ B ≤ q → H1[q]? = H[q]?) : ab_OO B od cl oo U H1 := by
  intro w ci fs hw
  obtain ⟨r, g1, g2, g3⟩ := h w ci fs hw
  exact ⟨r, g1, (g2.moved hvm).kept hk, fun b v hb => ⟨(g3 b v hb).1, ((g3 b v hb).2.moved hvm).kept hk⟩⟩
theorem ab_SZ.kept {B : Nat} {od : Nat → Nat} {Ts : List Cond} {own : String} {pl : Nat → Option ab_N} {s U : State} {H H1 : Heap} (h : ab_SZ B od Ts own pl s H) (hvm : s.vm.Alike U.vm) (hk : ∀ q, q < H.size → ¬ B ≤ q → H1[q]? = H[q]?) : ab_SZ B od Ts own pl U H1 := by
  intro x a b v hx
  obtain ⟨C, n, d, g1, g2⟩ := h x a b v hx
  exact ⟨C, n, d, (g1.moved hvm).kept hk, g2⟩
theorem ab_OA.kept {B : Nat} {od : Nat → Nat} {oa : Nat → Option (FieldType × Nat × (Nat → Value))} {s U : State} {H H1 : Heap} (h : ab_OA B od oa s H) (hvm : s.vm.Alike U.vm) (hk : ∀ q, q < H.size → ¬ B ≤ q → H1[q]? = H[q]?) : ab_OA B od oa U H1 := by
  intro w t n f hw
  obtain ⟨g1, cell, g2, g3, g4⟩ := h w t n f hw
  exact ⟨g1, cell, (hk _ (Array.getElem?_eq_some_iff.mp g2).1 (by omega)).trans g2, State.isArrayOf_alike hvm g3, g4⟩
/-- what is fixed of the program -/
def ab_SF (cl : List vw_C) (ct : Nat → Nat → FieldType) (cd : Nat → List Value) (aty : List FieldType) (sb : List (Nat × Nat)) (Ts : List Cond) (mt : List ab_M) : Prop :=
  (∀ t ci, (t, ci) ∈ sb → ∃ (E : String) (r : vw_C), aty[t]? = some (.object E) ∧ cl[ci]? = some r ∧ (r.1 = E ∨ Cond.castable r.1 E ∈ Ts)) ∧ ab_CS cl ct cd ∧ (∀ w ∈ Ts, ab_good w) ∧ (∀ (ci : Nat) (r : vw_C), cl[ci]? = some r → ∀ w ∈ u_ws r.1 r.2.1 r.2.2, w ∈ Ts) ∧ (∀ j N, mt[j]? = some N → j ≠ 0 → ab_mw Ts N) ∧ ∀ M ∈ mt, ab_ck M ∧ ∀ x n, my_p M x = some n → ab_pe cl Ts (my_y M).cls x n ∧ ab_pm Ts mt (my_y M).cls x n ∧ ab_p11 cl Ts (my_y M).cls x n ∧ ab_p4 cl aty Ts (my_y M).cls x n
/-- what holds of an activation -/
def ab_A (D : va_G) (dA : Nat → ClassId) (cl : List vw_C) (aty : List FieldType) (oa : Nat → Option (FieldType × Nat × (Nat → Value))) (oo : Nat → Option (Nat × List Value)) (od : Nat → Nat) (Ts : List Cond) (nc : List (Nat × Nat)) (mt : List ab_M) (B NC NS : Nat) (M : ab_M) (d : Nat) (R : Room) (s : State) (m : MethodId) (meth : Method) (c : Code) (n0 z0 : Nat) : Prop :=
  c.code = my_b M ∧ c.maxLocals = my_l M ∧ meth.sig.returnType = my_r M ∧ meth.locks = false ∧ s.vm.findClass (my_y M).cls = some m.cls ∧ c.exceptionTable.toList = tableOf (my_h M) ∧ meth.name = (my_y M).name ∧ ab_F D dA cl aty od Ts nc mt s ∧ ab_OA B od oa s s.heap ∧ NC ≤ n0 + R.cells ∧ NS ≤ z0 + R.slots ∧ d + 8 ≤ R.frames ∧ 64 * d + 512 ≤ R.locals ∧ ab_LS B Bundle.tN "UNASSIGNED_STACK" Bundle.steD s s.heap ∧ ab_LS B Bundle.tN "SUPPRESSED_SENTINEL" Bundle.listD s s.heap ∧ ab_OO B od cl oo s s.heap ∧ ∀ M ∈ mt, ab_SZ B od Ts (my_y M).cls (my_p M) s s.heap
theorem ab_args_map (B : Nat) (od : Nat → Nat) (as : List Value) : ∀ i, lv_args i (as.map (ab_v B od)) = ab_m B od (lv_args i as) := by
  induction as with
  | nil => intro i; rfl
  | cons v vs ih =>
    intro i
    show (i, ab_v B od v) :: lv_args (if (ab_v B od v).category = 2 then i + 2 else i + 1) (vs.map (ab_v B od)) = _
    rw [ab_v_cat, ih]
    rfl
theorem ab_sl_map (B : Nat) (od : Nat → Nat) (as : List Value) : (lg_sl (as.map (ab_v B od))).length = (lg_sl as).length := by
  induction as with
  | nil => rfl
  | cons v vs ih =>
    simp only [lg_sl, List.map_cons, List.flatMap_cons, List.length_append] at ih ⊢
    rw [ab_v_cat, ih]
    by_cases hc : v.category = 2 <;> simp [hc]
theorem ab_wt_map (B : Nat) (od : Nat → Nat) (r : List Value) : ((r.map (ab_v B od)).map fun v => v.category).sum = ab_wt r := by
  unfold ab_wt
  rw [List.map_map]
  congr 1
  apply List.map_congr_left
  intro v _
  exact ab_v_cat B od v
section AB7
variable {p : Program} {l : Launch} {e : Env} {B NC NS : Nat} {od : Nat → Nat} {D : va_G} {dA : Nat → ClassId} {cl : List vw_C} {ct : Nat → Nat → FieldType} {cd : Nat → List Value} {aty : List FieldType} {oa : Nat → Option (FieldType × Nat × (Nat → Value))} {oo : Nat → Option (Nat × List Value)} {sb : List (Nat × Nat)} {Ts : List Cond} {nc : List (Nat × Nat)} {mt : List ab_M}
/-- a throw of one's own -/
def ab_TH (p : Program) (l : Launch) (e : Env) (B NC NS : Nat) (od : Nat → Nat) (D : va_G) (dA : Nat → ClassId) (cl : List vw_C) (aty : List FieldType) (oa : Nat → Option (FieldType × Nat × (Nat → Value))) (oo : Nat → Option (Nat × List Value)) (Ts : List Cond) (nc : List (Nat × Nat)) (mt : List ab_M) : Prop :=
  ∀ (M : ab_M) (d : Nat) (R : Room) (s : State) (m : MethodId) (args : Array Value) (below : List Frame) (meth : Method) (c : Code) (H : Heap) (locs : List Loc) (cells slots n0 z0 pc ce x1 x2 x3 : Nat) (ls : Array Slot) (h : ab_H), M ∈ mt → ab_A D dA cl aty oa oo od Ts nc mt B NC NS M d R s m meth c n0 z0 → ls.size = my_l M → ab_th M pc = some (ce, x1, x2, x3) → h.length + 1 ≤ NC → ab_sz h + 6 ≤ NS → ab_R B od D dA cl NC NS s.heap n0 z0 h H locs cells slots →
    W p l e R s m args below meth c H locs cells slots (ab_Q below s B od D dA cl NC NS n0 z0 (.inr (ce, h.length)) (h ++ [.inr (ce, List.replicate 6 .null)])) (F0 m pc ls [])
def ab_TH0 (p : Program) (l : Launch) (e : Env) (B NC NS : Nat) (od : Nat → Nat) (D : va_G) (dA : Nat → ClassId) (cl : List vw_C) (aty : List FieldType) (oa : Nat → Option (FieldType × Nat × (Nat → Value))) (oo : Nat → Option (Nat × List Value)) (Ts : List Cond) (nc : List (Nat × Nat)) (mt : List ab_M) : Prop :=
  ∀ (M : ab_M) (d : Nat) (R : Room) (s : State) (m : MethodId) (args : Array Value) (below : List Frame) (meth : Method) (c : Code) (H : Heap) (locs : List Loc) (cells slots n0 z0 pc ce x1 x3 : Nat) (ls : Array Slot) (h : ab_H), M ∈ mt → ab_A D dA cl aty oa oo od Ts nc mt B NC NS M d R s m meth c n0 z0 → ls.size = my_l M → ab_th0 M pc = some (ce, x1, x3) → h.length + 1 ≤ NC → ab_sz h + 6 ≤ NS → ab_R B od D dA cl NC NS s.heap n0 z0 h H locs cells slots →
    W p l e R s m args below meth c H locs cells slots (ab_Q below s B od D dA cl NC NS n0 z0 (.inr (ce, h.length)) (h ++ [.inr (ce, List.replicate 6 .null)])) (F0 m pc ls [])
set_option maxHeartbeats 8000000 in
theorem ab_sound (hx : p.tables.exec = Jvm.exec) (hSF : ab_SF cl ct cd aty sb Ts mt) (hod : ∀ w, od w < B) (hTH : ab_TH p l e B NC NS od D dA cl aty oa oo Ts nc mt) (hTH0 : ab_TH0 p l e B NC NS od D dA cl aty oa oo Ts nc mt) :
    ∀ (n d mi pc : Nat) (L : ab_L) (S : List Value) (h h' : ab_H) (o : ab_O) (M : ab_M), mt[mi]? = some M → ab_run cl ct cd aty oa oo sb NC NS nc mt n d mi pc L S h = some (o, h') →
    ∀ (R : Room) (s : State) (m : MethodId) (args : Array Value) (below : List Frame) (meth : Method) (c : Code) (H : Heap) (locs : List Loc) (cells slots n0 z0 : Nat) (ls : Array Slot), ab_A D dA cl aty oa oo od Ts nc mt B NC NS M d R s m meth c n0 z0 → ab_R B od D dA cl NC NS s.heap n0 z0 h H locs cells slots → lv_has ls (my_l M) (ab_m B od L) →
    W p l e R s m args below meth c H locs cells slots (ab_Q below s B od D dA cl NC NS n0 z0 o h') (F0 m pc ls (S.map (ab_v B od))) := by
  intro n
  induction n with
  | zero =>
    intro d mi pc L S h h' o M hM hs
    simp [ab_run] at hs
  | succ n ih =>
    intro d mi pc L S h h' o M hM hs R s m args below meth c H locs cells slots n0 z0 ls hA hR hl
    have hMm := List.mem_of_getElem? hM
    obtain ⟨a1, a2, a3, a4, a5, a6, a7, a8, a9, a10, a11, a12, a13, als1, als2, aOO, aSZ⟩ := id hA
    obtain ⟨hsb, hCS, hgood, hus, hmws, hms⟩ := id hSF
    obtain ⟨hck, hpl⟩ := hms M hMm
    obtain ⟨hTs, hKC, hKA, hNCs, hAO, hST⟩ := id a8
    rw [ab_run, hM] at hs
    dsimp only at hs
    split at hs
    · cases hs
    · rename_i i len tg hfe
      obtain ⟨hdg, hlen, htg⟩ := ab_fe_ok hck hfe
      split at hs
      · rename_i pc' L' S' hs1
        exact ab_s1_ok hx a1 hdg hlen htg hs1 hl (fun ls' hl' => ih d mi pc' L' S' h h' o M hM hs R s m args below meth c H locs cells slots n0 z0 ls' hA hR hl')
      · split at hs
        · rename_i pc' S' h2 hs2
          exact ab_s2_ok hx a1 a5 hTs hKC hCS hKA a9 (fun x n hp => (hpl x n hp).1) (hST M hMm) (fun hi => by rw [a7]; simpa using hi) a10 a11 hdg hlen hs2 hR (fun H' locs' cells' slots' hR' => ih d mi pc' L S' h2 h' o M hM hs R s m args below meth c H' locs' cells' slots' n0 z0 ls hA hR' hl)
        · split at hs
          · rename_i v hs3
            cases hs
            exact ab_rt_ok hx a1 a3 a4 hdg hlen hs3 hR
          · split at hs
            · rename_i pc' S' hs4
              exact ab_sw_ok hx a1 hdg hs4 (ih d mi pc' L S' h h' o M hM hs R s m args below meth c H locs cells slots n0 z0 ls hA hR hl)
            · split at hs
              · rename_i S' hs5
                exact ab_ob_ok hx a1 a5 (hl.1.trans a2.symm) (by omega) (by omega) (fun x a b v hp => by have q := (hpl x _ hp).2.1; exact ⟨hTs _ q.1, hTs _ q.2.1, hTs _ q.2.2⟩) hdg hlen hs5 (ih d mi (pc + 3) L S' h h' o M hM hs R s m args below meth c H locs cells slots n0 z0 ls hA hR hl)
              · split at hs
                · rename_i j as r hcs
                  split at hs
                  · rename_i d' N hN
                    split at hs
                    · rename_i hc
                      obtain ⟨hc1, hc2, hc3⟩ := hc
                      intro T hT X
                      subst hT
                      obtain ⟨hl3, vm₁, mk, methk, ck, kk, hmf, hW₁, X₁, st⟩ := ab_cs_ok (ls := ls) X hx a1 a5 hTs hKC (hmws j N hN hc3) (fun x n hp => (hpl x n hp).2.1) hdg hlen hR hcs hN
                      subst hl3
                      obtain ⟨f1, f2, f3, f4, f5, f6, f7, f8, f9, f10, f11, f12, f13⟩ := hmf
                      have hRT : ab_R B od D dA cl NC NS s.heap n0 z0 h (T.setVm vm₁).heap locs cells slots := hR
                      obtain ⟨b1, b2, b3, b4, b5, b6, b7⟩ := id hR
                      have hmk : (T.setVm vm₁).vm.method? mk = some methk := by
                        show vm₁.method? mk = some methk
                        rw [hW₁.alike.method?]; exact f2
                      have hpk : (T.setVm vm₁).plainMethod mk := by
                        refine State.plainMethod.of_name fun k hk => ?_
                        obtain ⟨k', hk', he⟩ := hW₁.alike.2.2 _ _ f10
                        cases (show vm₁.classes[mk.cls]? = some k from hk).symm.trans hk'
                        rw [he]
                        show plainName kk.name = true
                        rw [f11]; exact (hmws j N hN hc3).2.2.1
                      have hF' : ab_F D dA cl aty od Ts nc mt ((T.setVm vm₁).calling (F0 m pc ls (r.map (ab_v B od))) mk (as.map (ab_v B od)).toArray) := a8.warm hgood hus hW₁
                      have hA' : ab_A D dA cl aty oa oo od Ts nc mt B NC NS N d' { frames := R.frames - 1, cells := R.cells - cells, slots := R.slots - slots, locals := R.locals - 64 } ((T.setVm vm₁).calling (F0 m pc ls (r.map (ab_v B od))) mk (as.map (ab_v B od)).toArray) mk methk ck h.length (ab_sz h) := by
                        refine ⟨f4, f5, f6, f7, ?_, f8, f13, hF', ?_, ?_, ?_, ?_, ?_, als1.kept hW₁.alike b3.2.1, als2.kept hW₁.alike b3.2.1, aOO.kept hW₁.alike b3.2.1, fun M' hM' => (aSZ M' hM').kept hW₁.alike b3.2.1⟩
                        · show vm₁.findClass (my_y N).cls = some mk.cls
                          rw [hW₁.alike.findClass]
                          exact findClass_of_methodNamed f1
                        · exact a9.kept hW₁.alike b3.2.1
                        · show NC ≤ h.length + (R.cells - cells); omega
                        · show NS ≤ ab_sz h + (R.slots - slots); omega
                        · show d' + 8 ≤ R.frames - 1; omega
                        · show 64 * d' + 512 ≤ R.locals - 64; omega
                      have hR0 : ab_R B od D dA cl NC NS T.heap h.length (ab_sz h) h T.heap [] 0 0 := ⟨b1, b2, va_S.rf, rfl, rfl, b6, b7⟩
                      have hl0 := lv_entry (as.map (ab_v B od)) (n := my_l N) (by rw [ab_sl_map]; exact hc2)
                      rw [ab_args_map] at hl0
                      have hsz : (F0 m pc ls (r.map (ab_v B od))).locals.size = c.maxLocals := hl.1.trans a2.symm
                      have hroom : 2 * (F0 m pc ls (r.map (ab_v B od))).monitorRoom + (((F0 m pc ls (r.map (ab_v B od))).stack).map fun v => v.category).sum + (ck.maxLocals + 11) + (R.locals - 64) ≤ R.locals := by
                        have e1 : (F0 m pc ls (r.map (ab_v B od))).monitorRoom = 0 := rfl
                        have e2 : (((F0 m pc ls (r.map (ab_v B od))).stack).map fun v => v.category).sum = ab_wt r := ab_wt_map B od r
                        rw [e1, e2, f5]
                        omega
                      have call : ∀ (o2 : ab_O) (h2 : ab_H), ab_run cl ct cd aty oa oo sb NC NS nc mt n d' j 0 (lv_args 0 as) [] h = some (o2, h2) → ∃ (T' : State) (locs' : List Loc) (cells' slots' : Nat), Stand p l e R s m args below meth c T' locs' cells' slots' ∧ ab_R B od D dA cl NC NS s.heap n0 z0 h2 T'.heap locs' cells' slots' ∧ ∀ acts, Steps p.tables e below (doInvoke e ((T.setVm vm₁).setTop (F0 m pc ls (r.map (ab_v B od)))) acts mk (as.map (ab_v B od)).toArray).1 (ab_nx B od T' (F0 m pc ls (r.map (ab_v B od))) 3 o2) := fun o2 h2 hrun =>
                        ab_into (o := o2) (h' := h2) X₁ hRT (g := F0 m pc ls (r.map (ab_v B od))) rfl hsz (by rw [a1]; exact hdg) (R' := { frames := R.frames - 1, cells := R.cells - cells, slots := R.slots - slots, locals := R.locals - 64 }) (a := (as.map (ab_v B od)).toArray) hmk f3 f7 hpk (by show R.frames - 1 + 1 ≤ R.frames; omega) hroom (by show cells + (R.cells - cells) ≤ R.cells; omega) (by show slots + (R.slots - slots) ≤ R.slots; omega)
                          (by rw [f5, lg_entry_eq]; exact ih d' j 0 (lv_args 0 as) [] h h2 o2 N hN hrun _ _ _ _ _ _ _ _ _ _ _ _ _ _ hA' hR0 hl0)
                      split at hs
                      · rename_i v h2 hrun
                        obtain ⟨T', locs', cells', slots', X', hR', st'⟩ := call _ _ hrun
                        obtain ⟨t, q1, q2⟩ := ih (d' + 1) mi (pc + 3) L (v.toList ++ r) h2 h' o M hM hs R s m args below meth c T'.heap locs' cells' slots' n0 z0 ls hA hR' hl T' rfl X'
                        refine ⟨t, st t (fun acts => (st' acts).trans ?_), q2⟩
                        cases v <;> exact q1
                      · rename_i ce q h2 hrun
                        obtain ⟨T', locs', cells', slots', X', hR', st'⟩ := call _ _ hrun
                        split at hs
                        · rename_i hnil
                          cases hs
                          have hfind : Finds e ((T'.setTop (F0 m pc ls (r.map (ab_v B od)))).pushFrame (.throwing (B + q))) (F0 m pc ls (r.map (ab_v B od))) (B + q) .none :=
                            Finds.outside (meth := meth) (code := c) X'.method' X'.code (by rw [a6, hnil]; intro y hy; cases hy)
                          have hAt : At T' (F0 m pc ls (r.map (ab_v B od))).method c below := X'.here
                          obtain ⟨g₀, hfr⟩ := X'.frames_eq
                          refine ⟨T'.setFrames (.throwing (B + q) :: below), st _ (fun acts => (st' acts).trans (Steps.thrownOut hAt (meth := meth) X'.method' a4 rfl rfl hfind ?_)), X'.here.running, State.frames_setFrames _ (State.cur_lt_of_frames hfr), (X'.ends _).1, locs', cells', slots', (X'.ends _).2, hR'⟩
                          rw [X'.tail]
                          exact Steps.refl _
                        · split at hs
                          · rename_i hix
                            split at hs
                            · rename_i hp hh
                              obtain ⟨fs, hq⟩ := ab_isx_ok hix
                              obtain ⟨rc, hrc, cell, q1, q2, q3, q4⟩ := hR'.1 q _ hq
                              have hplat : e.platform.magicAccessors = ({} : Platform).magicAccessors := by rw [X'.admits.platform]
                              obtain ⟨vm', hW', hgo⟩ := ab_srch (a := B + q) (g := F0 m pc ls (r.map (ab_v B od))) (cell := cell) hplat a5 hTs hKC hNCs (fun x n hp => (hpl x n hp).2.2.1) q2 (fun k hk => by rw [q3] at hk; cases hk) ⟨rc, hrc⟩ (my_h M) ((T'.setTop (F0 m pc ls (r.map (ab_v B od)))).pushFrame (.throwing (B + q))) X'.warmed q1 hh
                              have hfind : ab_Fd e ((T'.setTop (F0 m pc ls (r.map (ab_v B od)))).pushFrame (.throwing (B + q))) (F0 m pc ls (r.map (ab_v B od))) (B + q) (.found hp) vm' := fun Q E dd acts => by
                                rw [W.findHandler_eq (meth := meth) (code := c) X'.method' X'.code, a6]
                                exact hgo Q E dd acts
                              have X2 := X'.noted hW'
                              obtain ⟨t, z1, z2⟩ := ih (d' + 1) mi hp L [.ref q] h2 h' o M hM hs R s m args below meth c T'.heap locs' cells' slots' n0 z0 ls hA hR' hl (T'.setVm vm') rfl X2
                              exact ⟨t, st t (fun acts => (st' acts).trans (ab_caught X'.here hfind z1)), z2⟩
                            · cases hs
                          · cases hs
                      · cases hs
                    · cases hs
                  · cases hs
                · split at hs
                  · rename_i ce x1 x2 x3 hth
                    split at hs
                    · rename_i hc
                      obtain ⟨hc1, hc2, rfl⟩ := hc
                      cases hs
                      exact hTH M d R s m args below meth c H locs cells slots n0 z0 pc ce x1 x2 x3 ls h hMm hA hl.1 hth hc1 hc2 hR
                    · cases hs
                  · split at hs
                    · rename_i ce x1 x3 hth
                      split at hs
                      · rename_i hc
                        obtain ⟨hc1, hc2, rfl⟩ := hc
                        cases hs
                        exact hTH0 M d R s m args below meth c H locs cells slots n0 z0 pc ce x1 x3 ls h hMm hA hl.1 hth hc1 hc2 hR
                      · cases hs
                    · split at hs
                      · rename_i pc' S' h2 hs4
                        exact ab_s4_ok hx a1 a5 hTs hKC hKA hAO hod aOO (aSZ M hMm) hsb (fun x n hp => (hpl x n hp).1) (fun x n hp => (hpl x n hp).2.2.2) a10 a11 hdg hlen htg hs4 hR (fun H' locs' cells' slots' hR' => ih d mi pc' L S' h2 h' o M hM hs R s m args below meth c H' locs' cells' slots' n0 z0 ls hA hR' hl)
                      · cases hs
end AB7
end
section
/-! throws of one's own: throw new E("text"), throw new E() -/
/-- what the words say of an exception's entries: its class (9), its constructor with a text (10) -/
def ab_isZ (w : Cond) : Prop := w = .laysStatic Bundle.tN "UNASSIGNED_STACK" Bundle.steD ∨ w = .laysStatic Bundle.tN "SUPPRESSED_SENTINEL" Bundle.listD ∨ w = .isRef (.static Bundle.tN "UNASSIGNED_STACK" Bundle.steD) ∨ w = .isRef (.static Bundle.tN "SUPPRESSED_SENTINEL" Bundle.listD)
def ab_p9 (cl : List vw_C) (Ts : List Cond) (own : String) (x : Nat) (n : ab_N) : Prop := match n with
  | (9, ce, _, _) => ∃ r : vw_C, cl[ce]? = some r ∧ Cond.classLink own x r.1 ∈ Ts ∧ Cond.instantiable r.1 6 ∈ Ts ∧ Cond.initialized r.1 ∈ Ts
  | (10, ce, _, _) => ∃ (r : vw_C) (names : List String), cl[ce]? = some r ∧ r.2.2 = 0 ∧ Bundle.fit r.1 = true ∧ names.length ≤ 4 ∧ (∀ n ∈ names, Bundle.fit n = true) ∧ ∀ w ∈ Bundle.ownAtoms own x r.1 names, ab_isZ w ∨ w ∈ Ts
  | (14, ce, _, _) => ∃ (r : vw_C) (names : List String), cl[ce]? = some r ∧ r.2.2 = 0 ∧ Bundle.fit r.1 = true ∧ names.length ≤ 4 ∧ (∀ n ∈ names, Bundle.fit n = true) ∧ ∀ w ∈ Bundle.ownAtoms0 own x r.1 names, ab_isZ w ∨ w ∈ Ts
  | _ => True
section AB7A
variable {p : Program} {l : Launch} {e : Env} {B NC NS : Nat} {od : Nat → Nat} {D : va_G} {dA : Nat → ClassId} {cl : List vw_C} {ct : Nat → Nat → FieldType} {cd : Nat → List Value} {aty : List FieldType} {oa : Nat → Option (FieldType × Nat × (Nat → Value))} {oo : Nat → Option (Nat × List Value)} {sb : List (Nat × Nat)} {Ts : List Cond} {nc : List (Nat × Nat)} {mt : List ab_M}
set_option maxHeartbeats 8000000 in
theorem ab_TH_ok (hx : p.tables.exec = Jvm.exec) (hnt : l.stackTraces = false) (hSF : ab_SF cl ct cd aty sb Ts mt) (h9 : ∀ M ∈ mt, ∀ x n, my_p M x = some n → ab_p9 cl Ts (my_y M).cls x n) : ab_TH p l e B NC NS od D dA cl aty oa oo Ts nc mt := by
  intro M d R s m args below meth c H locs cells slots n0 z0 pc ce x1 x2 x3 ls h hM hA hls hth hc1 hc2 hR
  obtain ⟨a1, a2, a3, a4, a5, a6, a7, a8, a9, a10, a11, a12, a13, ls1, ls2, aOO, aSZ⟩ := id hA
  obtain ⟨hsb, hCS, hgood, hus, hmws, hms⟩ := id hSF
  obtain ⟨hck, hpl⟩ := hms M hM
  unfold ab_th at hth
  split at hth
  · rename_i i0 l0 t0 l3 t3 i4 l4 t4 i6 l6 t6 l9 t9 e0 e3 e4 e6 e9
    split at hth
    · rename_i ce' _ _ _ _ w cf _ _ p0 p4 p6
      split at hth
      · rename_i hcc
        obtain ⟨hcc1, hcc2⟩ := hcc
        cases hth
        subst hcc1
        obtain ⟨d0, q0, -⟩ := ab_fe_ok hck e0
        obtain ⟨d3, q3, -⟩ := ab_fe_ok hck e3
        obtain ⟨d4, q4, -⟩ := ab_fe_ok hck e4
        obtain ⟨d6, q6, -⟩ := ab_fe_ok hck e6
        obtain ⟨d9, q9, -⟩ := ab_fe_ok hck e9
        have k0 : l0 = 3 := by rcases q0 with q | q; exact absurd q (by simp [ab_len]); exact q
        have k3 : l3 = 1 := by rcases q3 with q | q; exact absurd q (by simp [ab_len]); exact q
        have k4 : l4 = 2 := by rcases q4 with q | q; exact absurd q (by simp [ab_len]); exact q
        have k6 : l6 = 3 := by rcases q6 with q | q; exact absurd q (by simp [ab_len]); exact q
        have k9 : l9 = 1 := by rcases q9 with q | q; exact absurd q (by simp [ab_len]); exact q
        subst k0 k3 k4 k6 k9
        rw [← a1] at d0 d3 d4 d6 d9
        obtain ⟨r, hr, w1, w2, w3⟩ := h9 M hM _ _ p0
        obtain ⟨r', names, hr', hr0, hfit, hnl, hnf, hown9⟩ := h9 M hM _ _ p6
        cases hr.symm.trans hr'
        intro T hT X
        subst hT
        obtain ⟨b1, b2, b3, b4, b5, b6, b7⟩ := id hR
        have X0 := ab_rebase X (R' := { frames := R.frames, cells := R.cells - cells, slots := R.slots - slots, locals := R.locals }) (Nat.le_refl _) (Nat.le_refl _) (by show cells + (R.cells - cells) ≤ R.cells; omega) (by show slots + (R.slots - slots) ≤ R.slots; omega)
        have hF' : ab_F D dA cl aty od Ts nc mt (T.setFrames (.invoking m args :: below)) := a8.warm hgood hus X.warmed
        have ls1' : ab_LS B Bundle.tN "UNASSIGNED_STACK" Bundle.steD (T.setFrames (.invoking m args :: below)) (T.setFrames (.invoking m args :: below)).heap := ls1.kept X.warmed.alike b3.2.1
        have ls2' : ab_LS B Bundle.tN "SUPPRESSED_SENTINEL" Bundle.listD (T.setFrames (.invoking m args :: below)) (T.setFrames (.invoking m args :: below)).heap := ls2.kept X.warmed.alike b3.2.1
        obtain ⟨hTs, hKC, hKA, hNCs, hAO, hST⟩ := id hF'
        have hown : (T.setFrames (.invoking m args :: below)).vm.findClass (my_y M).cls = some m.cls := by
          show T.vm.findClass _ = _
          rw [X.warmed.alike.findClass]; exact a5
        have htr : e.platform.stackTraces = false := by rw [X.admits.platform]; exact hnt
        obtain ⟨tx, hZ⟩ := hST M hM _ _ _ _ p4
        obtain ⟨vm₁, cX, kX, hfX, hkX, -, -, X₁, st1⟩ := X0.newCold hx (n := 6) hown (va_Nw.use rfl (hTs _ w1)) (va_Nw.use rfl (hTs _ w2)) (va_Nw.use rfl (hTs _ w3)) (g := F0 m pc ls []) rfl d0 (by show 0 + 1 ≤ R.cells - cells; omega) (by show 0 + 6 ≤ R.slots - slots; omega)
        have hcell : ((T.setVm vm₁).pushCell { cls := cX, slots := kX.instanceTypes.map defaultValue, vm := .none }).heap[T.heap.size]? = some (freshCell cX kX) := State.heap_pushCell_size _ _
        generalize hT1 : (T.setVm vm₁).pushCell { cls := cX, slots := kX.instanceTypes.map defaultValue, vm := .none } = T₁ at X₁ st1 hcell
        have hat : ∀ w ∈ Bundle.ownAtoms (my_y M).cls x3 r.1 names, w.before args (T.setFrames (.invoking m args :: below)) = true := by
          intro w hw
          rcases hown9 w hw with hz | hz
          · rcases hz with rfl | rfl | rfl | rfl
            · exact ls1'.lays args
            · exact ls2'.lays args
            · exact ls1'.isRef args
            · exact ls2'.isRef args
          · exact va_Nw.use (hgood w hz).1 (hTs w hz)
        have st2 := X₁.ldcString hx hown (text := tx) (a := od w.toNat) (args := args) hZ.1 hZ.2 (g := F0 m (pc + 4) ls [.ref T.heap.size, .ref T.heap.size]) rfl d4
        obtain ⟨U, hsteps, hrun, hend, hW, hsame, cE, hcE, K⟩ := X₁.ctorThrowS hx htr hown hfit hnf hat (fun y hy => by cases hy) hfX hkX hcell (Nat.le_refl _) (msg := .ref (od w.toNat)) rfl
          (g := F0 m (pc + 6) ls [.ref (od w.toNat), .ref T.heap.size, .ref T.heap.size]) rfl (hls.trans a2.symm) rfl rfl (rest := []) rfl d6 d9 (by rw [a6, hcc2]; intro y hy; cases hy) (by show names.length + 3 < R.frames; omega)
          (by
            have e1 : (F0 m (pc + 6) ls [.ref (od w.toNat), .ref T.heap.size, .ref T.heap.size]).monitorRoom = 0 := rfl
            have e2 : ((Value.ref T.heap.size :: ([] : List Value)).map fun v => v.category).sum = 1 := rfl
            rw [e1, e2]
            show _ ≤ R.locals
            omega) a4
        have hsame2 : T.sameButNew ({ U with vm := T.vm } : State) [] (0 + 1) (0 + 6) := ab_sb hsame
        have hlow : ∀ q, q < T.heap.size → U.heap[q]? = T.heap[q]? := fun q hq => ab_sb_heap hsame2 hq
        have hUs : U.heap.size = T.heap.size + 1 := by
          have z1 : U.heap.size ≤ T.heap.size + (0 + 1) := hsame2.2.2.1
          have z2 := (Array.getElem?_eq_some_iff.mp hcE).1
          omega
        have hsame3 : s.sameButNew ({ U with vm := s.vm } : State) (locs ++ []) (cells + (0 + 1)) (slots + (0 + 6)) := X.same.trans (hsame2.setVm s.vm)
        have hRU : ab_R B od D dA cl NC NS s.heap n0 z0 (h ++ [.inr (ce, List.replicate 6 .null)]) U.heap locs (cells + 1) (slots + 6) := by
          refine hR.push rfl hc1 hc2 ⟨r, hr, ?_⟩ hUs hlow
          rw [hr0, ← b2]
          refine ⟨cE, hcE, ?_, K.vm, fun k hk => absurd hk (Nat.not_lt_zero _)⟩
          exact Option.some.inj (K.cls.symm.trans (hKC ce r hr).1.2.1)
        refine ⟨U, st1 _ ?_, hrun, ?_, State.WarmedH.trans X.warmed hW, locs, cells + 1, slots + 6, ?_, hRU⟩
        · show Steps p.tables e below (T₁.setTop (F0 m (pc + 3) ls [.ref T.heap.size])) U
          jvm_step X₁.here [X₁.here.top, hx, d3, Value.category]
          exact st2 _ hsteps
        · show Ended U below (.threw (B + h.length))
          rw [← b2]; exact hend
        · rw [List.append_nil] at hsame3
          exact hsame3
      · cases hth
    · cases hth
  · cases hth
set_option maxHeartbeats 8000000 in
theorem ab_TH0_ok (hx : p.tables.exec = Jvm.exec) (hnt : l.stackTraces = false) (hSF : ab_SF cl ct cd aty sb Ts mt) (h9 : ∀ M ∈ mt, ∀ x n, my_p M x = some n → ab_p9 cl Ts (my_y M).cls x n)   : ab_TH0 p l e B NC NS od D dA cl aty oa oo Ts nc mt := by
  intro M d R s m args below meth c H locs cells slots n0 z0 pc ce x1 x3 ls h hM hA hls hth hc1 hc2 hR
  obtain ⟨a1, a2, a3, a4, a5, a6, a7, a8, a9, a10, a11, a12, a13, ls1, ls2, aOO, aSZ⟩ := id hA
  obtain ⟨hsb, hCS, hgood, hus, hmws, hms⟩ := id hSF
  obtain ⟨hck, hpl⟩ := hms M hM
  unfold ab_th0 at hth
  split at hth
  · rename_i i0 l0 t0 l3 t3 i6 l6 t6 l9 t9 e0 e3 e6 e9
    split at hth
    · rename_i ce' _ _ cf _ _ p0 p6
      split at hth
      · rename_i hcc
        obtain ⟨hcc1, hcc2⟩ := hcc
        cases hth
        subst hcc1
        obtain ⟨d0, q0, -⟩ := ab_fe_ok hck e0
        obtain ⟨d3, q3, -⟩ := ab_fe_ok hck e3
        obtain ⟨d6, q6, -⟩ := ab_fe_ok hck e6
        obtain ⟨d9, q9, -⟩ := ab_fe_ok hck e9
        have k0 : l0 = 3 := by rcases q0 with q | q; exact absurd q (by simp [ab_len]); exact q
        have k3 : l3 = 1 := by rcases q3 with q | q; exact absurd q (by simp [ab_len]); exact q
        have k6 : l6 = 3 := by rcases q6 with q | q; exact absurd q (by simp [ab_len]); exact q
        have k9 : l9 = 1 := by rcases q9 with q | q; exact absurd q (by simp [ab_len]); exact q
        subst k0 k3 k6 k9
        rw [← a1] at d0 d3 d6 d9
        obtain ⟨r, hr, w1, w2, w3⟩ := h9 M hM _ _ p0
        obtain ⟨r', names, hr', hr0, hfit, hnl, hnf, hown9⟩ := h9 M hM _ _ p6
        cases hr.symm.trans hr'
        intro T hT X
        subst hT
        obtain ⟨b1, b2, b3, b4, b5, b6, b7⟩ := id hR
        have X0 := ab_rebase X (R' := { frames := R.frames, cells := R.cells - cells, slots := R.slots - slots, locals := R.locals }) (Nat.le_refl _) (Nat.le_refl _) (by show cells + (R.cells - cells) ≤ R.cells; omega) (by show slots + (R.slots - slots) ≤ R.slots; omega)
        have hF' : ab_F D dA cl aty od Ts nc mt (T.setFrames (.invoking m args :: below)) := a8.warm hgood hus X.warmed
        have ls1' : ab_LS B Bundle.tN "UNASSIGNED_STACK" Bundle.steD (T.setFrames (.invoking m args :: below)) (T.setFrames (.invoking m args :: below)).heap := ls1.kept X.warmed.alike b3.2.1
        have ls2' : ab_LS B Bundle.tN "SUPPRESSED_SENTINEL" Bundle.listD (T.setFrames (.invoking m args :: below)) (T.setFrames (.invoking m args :: below)).heap := ls2.kept X.warmed.alike b3.2.1
        obtain ⟨hTs, hKC, hKA, hNCs, hAO, hST⟩ := id hF'
        have hown : (T.setFrames (.invoking m args :: below)).vm.findClass (my_y M).cls = some m.cls := by
          show T.vm.findClass _ = _
          rw [X.warmed.alike.findClass]; exact a5
        have htr : e.platform.stackTraces = false := by rw [X.admits.platform]; exact hnt
        obtain ⟨vm₁, cX, kX, hfX, hkX, -, -, X₁, st1⟩ := X0.newCold hx (n := 6) hown (va_Nw.use rfl (hTs _ w1)) (va_Nw.use rfl (hTs _ w2)) (va_Nw.use rfl (hTs _ w3)) (g := F0 m pc ls []) rfl d0 (by show 0 + 1 ≤ R.cells - cells; omega) (by show 0 + 6 ≤ R.slots - slots; omega)
        have hcell : ((T.setVm vm₁).pushCell { cls := cX, slots := kX.instanceTypes.map defaultValue, vm := .none }).heap[T.heap.size]? = some (freshCell cX kX) := State.heap_pushCell_size _ _
        generalize hT1 : (T.setVm vm₁).pushCell { cls := cX, slots := kX.instanceTypes.map defaultValue, vm := .none } = T₁ at X₁ st1 hcell
        have hat : ∀ w ∈ Bundle.ownAtoms0 (my_y M).cls x3 r.1 names, w.before args (T.setFrames (.invoking m args :: below)) = true := by
          intro w hw
          rcases hown9 w hw with hz | hz
          · rcases hz with rfl | rfl | rfl | rfl
            · exact ls1'.lays args
            · exact ls2'.lays args
            · exact ls1'.isRef args
            · exact ls2'.isRef args
          · exact va_Nw.use (hgood w hz).1 (hTs w hz)
        obtain ⟨U, hsteps, hrun, hend, hW, hsame, cE, hcE, K⟩ := X₁.ctorThrow0 hx htr hown hfit hnf hat (fun y hy => by cases hy) hfX hkX hcell (Nat.le_refl _)
          (g := F0 m (pc + 4) ls [.ref T.heap.size, .ref T.heap.size]) rfl (hls.trans a2.symm) rfl rfl (rest := []) rfl d6 d9 (by rw [a6, hcc2]; intro y hy; cases hy) (by show names.length + 3 < R.frames; omega)
          (by
            have e1 : (F0 m (pc + 4) ls [.ref T.heap.size, .ref T.heap.size]).monitorRoom = 0 := rfl
            have e2 : ((Value.ref T.heap.size :: ([] : List Value)).map fun v => v.category).sum = 1 := rfl
            rw [e1, e2]
            show _ ≤ R.locals
            omega) a4
        have hsame2 : T.sameButNew ({ U with vm := T.vm } : State) [] (0 + 1) (0 + 6) := ab_sb hsame
        have hlow : ∀ q, q < T.heap.size → U.heap[q]? = T.heap[q]? := fun q hq => ab_sb_heap hsame2 hq
        have hUs : U.heap.size = T.heap.size + 1 := by
          have z1 : U.heap.size ≤ T.heap.size + (0 + 1) := hsame2.2.2.1
          have z2 := (Array.getElem?_eq_some_iff.mp hcE).1
          omega
        have hsame3 : s.sameButNew ({ U with vm := s.vm } : State) (locs ++ []) (cells + (0 + 1)) (slots + (0 + 6)) := X.same.trans (hsame2.setVm s.vm)
        have hRU : ab_R B od D dA cl NC NS s.heap n0 z0 (h ++ [.inr (ce, List.replicate 6 .null)]) U.heap locs (cells + 1) (slots + 6) := by
          refine hR.push rfl hc1 hc2 ⟨r, hr, ?_⟩ hUs hlow
          rw [hr0, ← b2]
          refine ⟨cE, hcE, ?_, K.vm, fun k hk => absurd hk (Nat.not_lt_zero _)⟩
          exact Option.some.inj (K.cls.symm.trans (hKC ce r hr).1.2.1)
        refine ⟨U, st1 _ ?_, hrun, ?_, State.WarmedH.trans X.warmed hW, locs, cells + 1, slots + 6, ?_, hRU⟩
        · show Steps p.tables e below (T₁.setTop (F0 m (pc + 3) ls [.ref T.heap.size])) U
          jvm_step X₁.here [X₁.here.top, hx, d3, Value.category]
          exact hsteps
        · show Ended U below (.threw (B + h.length))
          rw [← b2]; exact hend
        · rw [List.append_nil] at hsame3
          exact hsame3
      · cases hth
    · cases hth
  · cases hth
end AB7A
end
section
-- ===== PART A: goes FIRST, ahead of the names: the tables' words, and 'selects' of the private methods out of them =====
/-- a private method of a class that the tables say can be made, by its rows of tables_1 -/
def lw_okq (q : MethodName × Nat) : Prop := (q.1.cls ≠ "java/lang/invoke/MethodHandle" ∧ q.1.cls ≠ "java/lang/invoke/VarHandle") ∧ Cond.instantiable q.1.cls q.2 ∈ tables_1 ∧ Cond.privateMethod q.1 ∈ tables_1 ∧ Cond.instanceMethod q.1 ∈ tables_1
theorem lw_p0 : lw_okq (⟨"java/lang/Throwable", "fillInStackTrace", "(I)Ljava/lang/Throwable;"⟩, 6) := ⟨⟨by decide +kernel, by decide +kernel⟩, List.mem_of_getElem? (i := 187) (by decide +kernel), List.mem_of_getElem? (i := 185) (by decide +kernel), List.mem_of_getElem? (i := 186) (by decide +kernel)⟩
theorem lw_p1 : lw_okq (⟨"NotationReader$Tape", "blanksEnd", "(I)I"⟩, 6) := ⟨⟨by decide +kernel, by decide +kernel⟩, List.mem_of_getElem? (i := 38) (by decide +kernel), List.mem_of_getElem? (i := 264) (by decide +kernel), List.mem_of_getElem? (i := 265) (by decide +kernel)⟩
theorem lw_p2 : lw_okq (⟨"NotationReader$Tape", "at", "(I)I"⟩, 6) := ⟨⟨by decide +kernel, by decide +kernel⟩, List.mem_of_getElem? (i := 38) (by decide +kernel), List.mem_of_getElem? (i := 268) (by decide +kernel), List.mem_of_getElem? (i := 269) (by decide +kernel)⟩
theorem lw_p3 : lw_okq (⟨"NotationReader$Tape", "word", "(LNotationReader$Token;)V"⟩, 6) := ⟨⟨by decide +kernel, by decide +kernel⟩, List.mem_of_getElem? (i := 38) (by decide +kernel), List.mem_of_getElem? (i := 282) (by decide +kernel), List.mem_of_getElem? (i := 283) (by decide +kernel)⟩
theorem lw_p4 : lw_okq (⟨"NotationReader$Tape", "keep", "(I)V"⟩, 6) := ⟨⟨by decide +kernel, by decide +kernel⟩, List.mem_of_getElem? (i := 38) (by decide +kernel), List.mem_of_getElem? (i := 292) (by decide +kernel), List.mem_of_getElem? (i := 293) (by decide +kernel)⟩
theorem lw_p5 : lw_okq (⟨"NotationReader$Tape", "spells", "(LNotationReader$Token;Ljava/lang/String;)Z"⟩, 6) := ⟨⟨by decide +kernel, by decide +kernel⟩, List.mem_of_getElem? (i := 38) (by decide +kernel), List.mem_of_getElem? (i := 300) (by decide +kernel), List.mem_of_getElem? (i := 301) (by decide +kernel)⟩
theorem lw_p6 : lw_okq (⟨"NotationReader$Tape", "numeral", "(LNotationReader$Token;)V"⟩, 6) := ⟨⟨by decide +kernel, by decide +kernel⟩, List.mem_of_getElem? (i := 38) (by decide +kernel), List.mem_of_getElem? (i := 358) (by decide +kernel), List.mem_of_getElem? (i := 359) (by decide +kernel)⟩
theorem lw_p7 : lw_okq (⟨"NotationReader$Tape", "string", "(LNotationReader$Token;)V"⟩, 6) := ⟨⟨by decide +kernel, by decide +kernel⟩, List.mem_of_getElem? (i := 38) (by decide +kernel), List.mem_of_getElem? (i := 364) (by decide +kernel), List.mem_of_getElem? (i := 365) (by decide +kernel)⟩
theorem lw_p8 : lw_okq (⟨"NotationReader$Tape", "digits", "(LNotationReader$Token;)V"⟩, 6) := ⟨⟨by decide +kernel, by decide +kernel⟩, List.mem_of_getElem? (i := 38) (by decide +kernel), List.mem_of_getElem? (i := 368) (by decide +kernel), List.mem_of_getElem? (i := 369) (by decide +kernel)⟩
theorem lw_p9 : lw_okq (⟨"NotationReader$Tape", "sign", "(LNotationReader$Token;I)V"⟩, 6) := ⟨⟨by decide +kernel, by decide +kernel⟩, List.mem_of_getElem? (i := 38) (by decide +kernel), List.mem_of_getElem? (i := 375) (by decide +kernel), List.mem_of_getElem? (i := 376) (by decide +kernel)⟩
theorem lw_p10 : lw_okq (⟨"NotationReader", "value", "(I)V"⟩, 3) := ⟨⟨by decide +kernel, by decide +kernel⟩, List.mem_of_getElem? (i := 30) (by decide +kernel), List.mem_of_getElem? (i := 379) (by decide +kernel), List.mem_of_getElem? (i := 380) (by decide +kernel)⟩
theorem lw_p11 : lw_okq (⟨"NotationReader", "braces", "(I)V"⟩, 3) := ⟨⟨by decide +kernel, by decide +kernel⟩, List.mem_of_getElem? (i := 30) (by decide +kernel), List.mem_of_getElem? (i := 383) (by decide +kernel), List.mem_of_getElem? (i := 384) (by decide +kernel)⟩
theorem lw_p12 : lw_okq (⟨"NotationReader", "refuse", "()V"⟩, 3) := ⟨⟨by decide +kernel, by decide +kernel⟩, List.mem_of_getElem? (i := 30) (by decide +kernel), List.mem_of_getElem? (i := 387) (by decide +kernel), List.mem_of_getElem? (i := 388) (by decide +kernel)⟩
theorem lw_p13 : lw_okq (⟨"NotationReader", "add", "(I)LNotationReader$Node;"⟩, 3) := ⟨⟨by decide +kernel, by decide +kernel⟩, List.mem_of_getElem? (i := 30) (by decide +kernel), List.mem_of_getElem? (i := 407) (by decide +kernel), List.mem_of_getElem? (i := 408) (by decide +kernel)⟩
theorem lw_p14 : lw_okq (⟨"java/util/ArrayList", "add", "(Ljava/lang/Object;[Ljava/lang/Object;I)V"⟩, 3) := ⟨⟨by decide +kernel, by decide +kernel⟩, List.mem_of_getElem? (i := 100) (by decide +kernel), List.mem_of_getElem? (i := 448) (by decide +kernel), List.mem_of_getElem? (i := 449) (by decide +kernel)⟩
theorem lw_p15 : lw_okq (⟨"java/util/ArrayList", "grow", "()[Ljava/lang/Object;"⟩, 3) := ⟨⟨by decide +kernel, by decide +kernel⟩, List.mem_of_getElem? (i := 100) (by decide +kernel), List.mem_of_getElem? (i := 452) (by decide +kernel), List.mem_of_getElem? (i := 453) (by decide +kernel)⟩
def lw_privs_1 : List (MethodName × Nat) := [(⟨"java/lang/Throwable", "fillInStackTrace", "(I)Ljava/lang/Throwable;"⟩, 6), (⟨"NotationReader$Tape", "blanksEnd", "(I)I"⟩, 6), (⟨"NotationReader$Tape", "at", "(I)I"⟩, 6), (⟨"NotationReader$Tape", "word", "(LNotationReader$Token;)V"⟩, 6), (⟨"NotationReader$Tape", "keep", "(I)V"⟩, 6), (⟨"NotationReader$Tape", "spells", "(LNotationReader$Token;Ljava/lang/String;)Z"⟩, 6), (⟨"NotationReader$Tape", "numeral", "(LNotationReader$Token;)V"⟩, 6), (⟨"NotationReader$Tape", "string", "(LNotationReader$Token;)V"⟩, 6), (⟨"NotationReader$Tape", "digits", "(LNotationReader$Token;)V"⟩, 6), (⟨"NotationReader$Tape", "sign", "(LNotationReader$Token;I)V"⟩, 6), (⟨"NotationReader", "value", "(I)V"⟩, 3), (⟨"NotationReader", "braces", "(I)V"⟩, 3), (⟨"NotationReader", "refuse", "()V"⟩, 3), (⟨"NotationReader", "add", "(I)LNotationReader$Node;"⟩, 3), (⟨"java/util/ArrayList", "add", "(Ljava/lang/Object;[Ljava/lang/Object;I)V"⟩, 3), (⟨"java/util/ArrayList", "grow", "()[Ljava/lang/Object;"⟩, 3)]
theorem lw_r1 : ∀ q ∈ lw_privs_1, lw_okq q := List.forall_mem_cons.mpr ⟨lw_p0, List.forall_mem_cons.mpr ⟨lw_p1, List.forall_mem_cons.mpr ⟨lw_p2, List.forall_mem_cons.mpr ⟨lw_p3, List.forall_mem_cons.mpr ⟨lw_p4, List.forall_mem_cons.mpr ⟨lw_p5, List.forall_mem_cons.mpr ⟨lw_p6, List.forall_mem_cons.mpr ⟨lw_p7, List.forall_mem_cons.mpr ⟨lw_p8, List.forall_mem_cons.mpr ⟨lw_p9, List.forall_mem_cons.mpr ⟨lw_p10, List.forall_mem_cons.mpr ⟨lw_p11, List.forall_mem_cons.mpr ⟨lw_p12, List.forall_mem_cons.mpr ⟨lw_p13, List.forall_mem_cons.mpr ⟨lw_p14, List.forall_mem_cons.mpr ⟨lw_p15, fun _ h => absurd h List.not_mem_nil⟩⟩⟩⟩⟩⟩⟩⟩⟩⟩⟩⟩⟩⟩⟩⟩
theorem lw_p16 : lw_okq (⟨"java/util/ArrayList", "grow", "(I)[Ljava/lang/Object;"⟩, 3) := ⟨⟨by decide +kernel, by decide +kernel⟩, List.mem_of_getElem? (i := 100) (by decide +kernel), List.mem_of_getElem? (i := 456) (by decide +kernel), List.mem_of_getElem? (i := 457) (by decide +kernel)⟩
theorem lw_p17 : lw_okq (⟨"NotationReader", "close", "(LNotationReader$Node;)V"⟩, 3) := ⟨⟨by decide +kernel, by decide +kernel⟩, List.mem_of_getElem? (i := 30) (by decide +kernel), List.mem_of_getElem? (i := 504) (by decide +kernel), List.mem_of_getElem? (i := 505) (by decide +kernel)⟩
theorem lw_p18 : lw_okq (⟨"NotationReader", "formOfBraces", "()I"⟩, 3) := ⟨⟨by decide +kernel, by decide +kernel⟩, List.mem_of_getElem? (i := 30) (by decide +kernel), List.mem_of_getElem? (i := 513) (by decide +kernel), List.mem_of_getElem? (i := 514) (by decide +kernel)⟩
theorem lw_p19 : lw_okq (⟨"NotationReader", "numbers", "(LNotationReader$Node;)V"⟩, 3) := ⟨⟨by decide +kernel, by decide +kernel⟩, List.mem_of_getElem? (i := 30) (by decide +kernel), List.mem_of_getElem? (i := 520) (by decide +kernel), List.mem_of_getElem? (i := 521) (by decide +kernel)⟩
theorem lw_p20 : lw_okq (⟨"NotationReader", "idWithValue", "()LNotationReader$Node;"⟩, 3) := ⟨⟨by decide +kernel, by decide +kernel⟩, List.mem_of_getElem? (i := 30) (by decide +kernel), List.mem_of_getElem? (i := 524) (by decide +kernel), List.mem_of_getElem? (i := 525) (by decide +kernel)⟩
theorem lw_p21 : lw_okq (⟨"NotationReader", "demand", "(I)V"⟩, 3) := ⟨⟨by decide +kernel, by decide +kernel⟩, List.mem_of_getElem? (i := 30) (by decide +kernel), List.mem_of_getElem? (i := 528) (by decide +kernel), List.mem_of_getElem? (i := 529) (by decide +kernel)⟩
theorem lw_p22 : lw_okq (⟨"NotationReader", "choice", "(I)V"⟩, 3) := ⟨⟨by decide +kernel, by decide +kernel⟩, List.mem_of_getElem? (i := 30) (by decide +kernel), List.mem_of_getElem? (i := 532) (by decide +kernel), List.mem_of_getElem? (i := 533) (by decide +kernel)⟩
theorem lw_p23 : lw_okq (⟨"NotationReader", "negative", "()V"⟩, 3) := ⟨⟨by decide +kernel, by decide +kernel⟩, List.mem_of_getElem? (i := 30) (by decide +kernel), List.mem_of_getElem? (i := 536) (by decide +kernel), List.mem_of_getElem? (i := 537) (by decide +kernel)⟩
theorem lw_p24 : lw_okq (⟨"NotationReader", "nodeAt", "(I)LNotationReader$Node;"⟩, 3) := ⟨⟨by decide +kernel, by decide +kernel⟩, List.mem_of_getElem? (i := 30) (by decide +kernel), List.mem_of_getElem? (i := 547) (by decide +kernel), List.mem_of_getElem? (i := 548) (by decide +kernel)⟩
theorem lw_p25 : lw_okq (⟨"NotationReaderModel", "fail", "(I)I"⟩, 21) := ⟨⟨by decide +kernel, by decide +kernel⟩, List.mem_of_getElem? (i := 630) (by decide +kernel), List.mem_of_getElem? (i := 759) (by decide +kernel), List.mem_of_getElem? (i := 760) (by decide +kernel)⟩
theorem lw_p26 : lw_okq (⟨"NotationReaderModel", "advance", "()V"⟩, 21) := ⟨⟨by decide +kernel, by decide +kernel⟩, List.mem_of_getElem? (i := 630) (by decide +kernel), List.mem_of_getElem? (i := 772) (by decide +kernel), List.mem_of_getElem? (i := 773) (by decide +kernel)⟩
theorem lw_p27 : lw_okq (⟨"NotationReaderModel", "skip", "()V"⟩, 21) := ⟨⟨by decide +kernel, by decide +kernel⟩, List.mem_of_getElem? (i := 630) (by decide +kernel), List.mem_of_getElem? (i := 776) (by decide +kernel), List.mem_of_getElem? (i := 777) (by decide +kernel)⟩
theorem lw_p28 : lw_okq (⟨"NotationReaderModel", "byteAt", "(I)I"⟩, 21) := ⟨⟨by decide +kernel, by decide +kernel⟩, List.mem_of_getElem? (i := 630) (by decide +kernel), List.mem_of_getElem? (i := 780) (by decide +kernel), List.mem_of_getElem? (i := 781) (by decide +kernel)⟩
theorem lw_p29 : lw_okq (⟨"NotationReaderModel", "blank", "(I)Z"⟩, 21) := ⟨⟨by decide +kernel, by decide +kernel⟩, List.mem_of_getElem? (i := 630) (by decide +kernel), List.mem_of_getElem? (i := 784) (by decide +kernel), List.mem_of_getElem? (i := 785) (by decide +kernel)⟩
theorem lw_p30 : lw_okq (⟨"NotationReaderModel", "letter", "(I)Z"⟩, 21) := ⟨⟨by decide +kernel, by decide +kernel⟩, List.mem_of_getElem? (i := 630) (by decide +kernel), List.mem_of_getElem? (i := 788) (by decide +kernel), List.mem_of_getElem? (i := 789) (by decide +kernel)⟩
theorem lw_p31 : lw_okq (⟨"NotationReaderModel", "words", "()V"⟩, 21) := ⟨⟨by decide +kernel, by decide +kernel⟩, List.mem_of_getElem? (i := 630) (by decide +kernel), List.mem_of_getElem? (i := 792) (by decide +kernel), List.mem_of_getElem? (i := 793) (by decide +kernel)⟩
def lw_privs_2 : List (MethodName × Nat) := [(⟨"java/util/ArrayList", "grow", "(I)[Ljava/lang/Object;"⟩, 3), (⟨"NotationReader", "close", "(LNotationReader$Node;)V"⟩, 3), (⟨"NotationReader", "formOfBraces", "()I"⟩, 3), (⟨"NotationReader", "numbers", "(LNotationReader$Node;)V"⟩, 3), (⟨"NotationReader", "idWithValue", "()LNotationReader$Node;"⟩, 3), (⟨"NotationReader", "demand", "(I)V"⟩, 3), (⟨"NotationReader", "choice", "(I)V"⟩, 3), (⟨"NotationReader", "negative", "()V"⟩, 3), (⟨"NotationReader", "nodeAt", "(I)LNotationReader$Node;"⟩, 3), (⟨"NotationReaderModel", "fail", "(I)I"⟩, 21), (⟨"NotationReaderModel", "advance", "()V"⟩, 21), (⟨"NotationReaderModel", "skip", "()V"⟩, 21), (⟨"NotationReaderModel", "byteAt", "(I)I"⟩, 21), (⟨"NotationReaderModel", "blank", "(I)Z"⟩, 21), (⟨"NotationReaderModel", "letter", "(I)Z"⟩, 21), (⟨"NotationReaderModel", "words", "()V"⟩, 21)]
theorem lw_r2 : ∀ q ∈ lw_privs_2, lw_okq q := List.forall_mem_cons.mpr ⟨lw_p16, List.forall_mem_cons.mpr ⟨lw_p17, List.forall_mem_cons.mpr ⟨lw_p18, List.forall_mem_cons.mpr ⟨lw_p19, List.forall_mem_cons.mpr ⟨lw_p20, List.forall_mem_cons.mpr ⟨lw_p21, List.forall_mem_cons.mpr ⟨lw_p22, List.forall_mem_cons.mpr ⟨lw_p23, List.forall_mem_cons.mpr ⟨lw_p24, List.forall_mem_cons.mpr ⟨lw_p25, List.forall_mem_cons.mpr ⟨lw_p26, List.forall_mem_cons.mpr ⟨lw_p27, List.forall_mem_cons.mpr ⟨lw_p28, List.forall_mem_cons.mpr ⟨lw_p29, List.forall_mem_cons.mpr ⟨lw_p30, List.forall_mem_cons.mpr ⟨lw_p31, fun _ h => absurd h List.not_mem_nil⟩⟩⟩⟩⟩⟩⟩⟩⟩⟩⟩⟩⟩⟩⟩⟩
theorem lw_p32 : lw_okq (⟨"NotationReaderModel", "digit", "(I)Z"⟩, 21) := ⟨⟨by decide +kernel, by decide +kernel⟩, List.mem_of_getElem? (i := 630) (by decide +kernel), List.mem_of_getElem? (i := 796) (by decide +kernel), List.mem_of_getElem? (i := 797) (by decide +kernel)⟩
theorem lw_p33 : lw_okq (⟨"NotationReaderModel", "text", "(II)Ljava/lang/String;"⟩, 21) := ⟨⟨by decide +kernel, by decide +kernel⟩, List.mem_of_getElem? (i := 630) (by decide +kernel), List.mem_of_getElem? (i := 800) (by decide +kernel), List.mem_of_getElem? (i := 801) (by decide +kernel)⟩
theorem lw_p34 : lw_okq (⟨"NotationReaderModel", "numbers", "()V"⟩, 21) := ⟨⟨by decide +kernel, by decide +kernel⟩, List.mem_of_getElem? (i := 630) (by decide +kernel), List.mem_of_getElem? (i := 1029) (by decide +kernel), List.mem_of_getElem? (i := 1030) (by decide +kernel)⟩
theorem lw_p35 : lw_okq (⟨"NotationReaderModel", "strings", "()V"⟩, 21) := ⟨⟨by decide +kernel, by decide +kernel⟩, List.mem_of_getElem? (i := 630) (by decide +kernel), List.mem_of_getElem? (i := 1035) (by decide +kernel), List.mem_of_getElem? (i := 1036) (by decide +kernel)⟩
theorem lw_p36 : lw_okq (⟨"NotationReaderModel", "quoted", "()V"⟩, 21) := ⟨⟨by decide +kernel, by decide +kernel⟩, List.mem_of_getElem? (i := 630) (by decide +kernel), List.mem_of_getElem? (i := 1039) (by decide +kernel), List.mem_of_getElem? (i := 1040) (by decide +kernel)⟩
theorem lw_p37 : lw_okq (⟨"NotationReaderModel", "value", "()LNotationReaderModel$Value;"⟩, 21) := ⟨⟨by decide +kernel, by decide +kernel⟩, List.mem_of_getElem? (i := 630) (by decide +kernel), List.mem_of_getElem? (i := 1045) (by decide +kernel), List.mem_of_getElem? (i := 1046) (by decide +kernel)⟩
theorem lw_p38 : lw_okq (⟨"NotationReaderModel", "is", "(Ljava/lang/String;)Z"⟩, 21) := ⟨⟨by decide +kernel, by decide +kernel⟩, List.mem_of_getElem? (i := 630) (by decide +kernel), List.mem_of_getElem? (i := 1049) (by decide +kernel), List.mem_of_getElem? (i := 1050) (by decide +kernel)⟩
theorem lw_p39 : lw_okq (⟨"NotationReaderModel", "whole", "()J"⟩, 21) := ⟨⟨by decide +kernel, by decide +kernel⟩, List.mem_of_getElem? (i := 630) (by decide +kernel), List.mem_of_getElem? (i := 1094) (by decide +kernel), List.mem_of_getElem? (i := 1095) (by decide +kernel)⟩
theorem lw_p40 : lw_okq (⟨"NotationReaderModel", "can", "(Z)V"⟩, 21) := ⟨⟨by decide +kernel, by decide +kernel⟩, List.mem_of_getElem? (i := 630) (by decide +kernel), List.mem_of_getElem? (i := 1098) (by decide +kernel), List.mem_of_getElem? (i := 1099) (by decide +kernel)⟩
theorem lw_p41 : lw_okq (⟨"NotationReaderModel", "take", "(I)Ljava/lang/String;"⟩, 21) := ⟨⟨by decide +kernel, by decide +kernel⟩, List.mem_of_getElem? (i := 630) (by decide +kernel), List.mem_of_getElem? (i := 1112) (by decide +kernel), List.mem_of_getElem? (i := 1113) (by decide +kernel)⟩
theorem lw_p42 : lw_okq (⟨"NotationReaderModel", "open", "()V"⟩, 21) := ⟨⟨by decide +kernel, by decide +kernel⟩, List.mem_of_getElem? (i := 630) (by decide +kernel), List.mem_of_getElem? (i := 1116) (by decide +kernel), List.mem_of_getElem? (i := 1117) (by decide +kernel)⟩
theorem lw_p43 : lw_okq (⟨"NotationReaderModel", "braces", "(I)LNotationReaderModel$Value;"⟩, 21) := ⟨⟨by decide +kernel, by decide +kernel⟩, List.mem_of_getElem? (i := 630) (by decide +kernel), List.mem_of_getElem? (i := 1124) (by decide +kernel), List.mem_of_getElem? (i := 1125) (by decide +kernel)⟩
theorem lw_p44 : lw_okq (⟨"NotationReaderModel", "beginsValue", "()Z"⟩, 21) := ⟨⟨by decide +kernel, by decide +kernel⟩, List.mem_of_getElem? (i := 630) (by decide +kernel), List.mem_of_getElem? (i := 1128) (by decide +kernel), List.mem_of_getElem? (i := 1129) (by decide +kernel)⟩
theorem lw_p45 : lw_okq (⟨"NotationReaderModel", "expect", "(Ljava/lang/String;)V"⟩, 21) := ⟨⟨by decide +kernel, by decide +kernel⟩, List.mem_of_getElem? (i := 630) (by decide +kernel), List.mem_of_getElem? (i := 1132) (by decide +kernel), List.mem_of_getElem? (i := 1133) (by decide +kernel)⟩
theorem lw_p46 : lw_okq (⟨"NotationReaderModel", "lay", "(LNotationReaderModel$Value;I)V"⟩, 21) := ⟨⟨by decide +kernel, by decide +kernel⟩, List.mem_of_getElem? (i := 630) (by decide +kernel), List.mem_of_getElem? (i := 1136) (by decide +kernel), List.mem_of_getElem? (i := 1137) (by decide +kernel)⟩
theorem lw_p47 : lw_okq (⟨"NotationReaderModel", "node", "(IIILNotationReaderModel$Value;Ljava/lang/String;I)I"⟩, 21) := ⟨⟨by decide +kernel, by decide +kernel⟩, List.mem_of_getElem? (i := 630) (by decide +kernel), List.mem_of_getElem? (i := 1140) (by decide +kernel), List.mem_of_getElem? (i := 1141) (by decide +kernel)⟩
def lw_privs_3 : List (MethodName × Nat) := [(⟨"NotationReaderModel", "digit", "(I)Z"⟩, 21), (⟨"NotationReaderModel", "text", "(II)Ljava/lang/String;"⟩, 21), (⟨"NotationReaderModel", "numbers", "()V"⟩, 21), (⟨"NotationReaderModel", "strings", "()V"⟩, 21), (⟨"NotationReaderModel", "quoted", "()V"⟩, 21), (⟨"NotationReaderModel", "value", "()LNotationReaderModel$Value;"⟩, 21), (⟨"NotationReaderModel", "is", "(Ljava/lang/String;)Z"⟩, 21), (⟨"NotationReaderModel", "whole", "()J"⟩, 21), (⟨"NotationReaderModel", "can", "(Z)V"⟩, 21), (⟨"NotationReaderModel", "take", "(I)Ljava/lang/String;"⟩, 21), (⟨"NotationReaderModel", "open", "()V"⟩, 21), (⟨"NotationReaderModel", "braces", "(I)LNotationReaderModel$Value;"⟩, 21), (⟨"NotationReaderModel", "beginsValue", "()Z"⟩, 21), (⟨"NotationReaderModel", "expect", "(Ljava/lang/String;)V"⟩, 21), (⟨"NotationReaderModel", "lay", "(LNotationReaderModel$Value;I)V"⟩, 21), (⟨"NotationReaderModel", "node", "(IIILNotationReaderModel$Value;Ljava/lang/String;I)I"⟩, 21)]
theorem lw_r3 : ∀ q ∈ lw_privs_3, lw_okq q := List.forall_mem_cons.mpr ⟨lw_p32, List.forall_mem_cons.mpr ⟨lw_p33, List.forall_mem_cons.mpr ⟨lw_p34, List.forall_mem_cons.mpr ⟨lw_p35, List.forall_mem_cons.mpr ⟨lw_p36, List.forall_mem_cons.mpr ⟨lw_p37, List.forall_mem_cons.mpr ⟨lw_p38, List.forall_mem_cons.mpr ⟨lw_p39, List.forall_mem_cons.mpr ⟨lw_p40, List.forall_mem_cons.mpr ⟨lw_p41, List.forall_mem_cons.mpr ⟨lw_p42, List.forall_mem_cons.mpr ⟨lw_p43, List.forall_mem_cons.mpr ⟨lw_p44, List.forall_mem_cons.mpr ⟨lw_p45, List.forall_mem_cons.mpr ⟨lw_p46, List.forall_mem_cons.mpr ⟨lw_p47, fun _ h => absurd h List.not_mem_nil⟩⟩⟩⟩⟩⟩⟩⟩⟩⟩⟩⟩⟩⟩⟩⟩
theorem lw_p48 : lw_okq (⟨"NotationReaderModel", "out", "(I)Z"⟩, 21) := ⟨⟨by decide +kernel, by decide +kernel⟩, List.mem_of_getElem? (i := 630) (by decide +kernel), List.mem_of_getElem? (i := 1152) (by decide +kernel), List.mem_of_getElem? (i := 1153) (by decide +kernel)⟩
theorem lw_p49 : lw_okq (⟨"NotationReaderModel", "units", "(I)I"⟩, 21) := ⟨⟨by decide +kernel, by decide +kernel⟩, List.mem_of_getElem? (i := 630) (by decide +kernel), List.mem_of_getElem? (i := 1156) (by decide +kernel), List.mem_of_getElem? (i := 1157) (by decide +kernel)⟩
def lw_privs_4 : List (MethodName × Nat) := [(⟨"NotationReaderModel", "out", "(I)Z"⟩, 21), (⟨"NotationReaderModel", "units", "(I)I"⟩, 21)]
theorem lw_r4 : ∀ q ∈ lw_privs_4, lw_okq q := List.forall_mem_cons.mpr ⟨lw_p48, List.forall_mem_cons.mpr ⟨lw_p49, fun _ h => absurd h List.not_mem_nil⟩⟩
def lw_privs : List (MethodName × Nat) := lw_privs_1 ++ (lw_privs_2 ++ (lw_privs_3 ++ (lw_privs_4)))
def lw_tbl : List Cond := k2_sels lw_privs ++ tables_1
theorem lw_privs_ok : ∀ q ∈ lw_privs, lw_okq q := by
  show ∀ q ∈ lw_privs_1 ++ (lw_privs_2 ++ (lw_privs_3 ++ (lw_privs_4))), lw_okq q
  exact List.forall_mem_append.mpr ⟨lw_r1, List.forall_mem_append.mpr ⟨lw_r2, List.forall_mem_append.mpr ⟨lw_r3, lw_r4⟩⟩⟩
end
section
/-! THE PROGRAM: classes, pools, methods; made by wip/whole/gen/tables.py out of the Statement -/
def xT0 : u_T := fun k => match k with
  | 0 => ("NotationReader", "tape", "LNotationReader$Tape;", true)
  | 1 => ("NotationReader", "nodes", "Ljava/util/ArrayList;", true)
  | 2 => ("NotationReader", "place", "I", false)
  | _ => ("", "", "", false)
def xY0 : Nat → FieldType := fun k => match k with
  | 0 => .object "NotationReader$Tape"
  | 1 => .object "java/util/ArrayList"
  | 2 => .int
  | _ => .int
def xT1 : u_T := fun k => match k with
  | 0 => ("NotationReader$Tape", "bytes", "[B", true)
  | 1 => ("NotationReader$Tape", "letters", "[B", true)
  | 2 => ("NotationReader$Tape", "kept", "I", false)
  | 3 => ("NotationReader$Tape", "length", "I", false)
  | 4 => ("NotationReader$Tape", "here", "LNotationReader$Token;", false)
  | 5 => ("NotationReader$Tape", "ahead", "LNotationReader$Token;", false)
  | _ => ("", "", "", false)
def xY1 : Nat → FieldType := fun k => match k with
  | 0 => .array (.byte)
  | 1 => .array (.byte)
  | 2 => .int
  | 3 => .int
  | 4 => .object "NotationReader$Token"
  | 5 => .object "NotationReader$Token"
  | _ => .int
def xT2 : u_T := fun k => match k with
  | 0 => ("NotationReader$Token", "kind", "I", false)
  | 1 => ("NotationReader$Token", "begin", "I", false)
  | 2 => ("NotationReader$Token", "end", "I", false)
  | 3 => ("NotationReader$Token", "first", "I", false)
  | 4 => ("NotationReader$Token", "letters", "I", false)
  | 5 => ("NotationReader$Token", "value", "J", false)
  | _ => ("", "", "", false)
def xY2 : Nat → FieldType := fun k => match k with
  | 0 => .int
  | 1 => .int
  | 2 => .int
  | 3 => .int
  | 4 => .int
  | 5 => .long
  | _ => .int
def xT3 : u_T := fun k => match k with
  | 0 => ("NotationReaderModel", "failed", "I", false)
  | 1 => ("NotationReaderModel", "tape", "[B", true)
  | 2 => ("NotationReaderModel", "taped", "I", false)
  | 3 => ("NotationReaderModel", "place", "I", false)
  | 4 => ("NotationReaderModel", "signs", "[Ljava/lang/String;", true)
  | 5 => ("NotationReaderModel", "keptWords", "[Ljava/lang/String;", true)
  | 6 => ("NotationReaderModel", "token", "I", false)
  | 7 => ("NotationReaderModel", "from", "I", false)
  | 8 => ("NotationReaderModel", "to", "I", false)
  | 9 => ("NotationReaderModel", "number", "J", false)
  | 10 => ("NotationReaderModel", "word", "Ljava/lang/String;", false)
  | 11 => ("NotationReaderModel", "at", "I", false)
  | 12 => ("NotationReaderModel", "valuesOpen", "I", false)
  | 13 => ("NotationReaderModel", "typesOpen", "I", false)
  | 14 => ("NotationReaderModel", "nodes", "I", false)
  | 15 => ("NotationReaderModel", "values", "[LNotationReaderModel$Value;", false)
  | 16 => ("NotationReaderModel", "kinds", "[I", false)
  | 17 => ("NotationReaderModel", "places", "[I", false)
  | 18 => ("NotationReaderModel", "counts", "[I", false)
  | 19 => ("NotationReaderModel", "arounds", "[I", false)
  | 20 => ("NotationReaderModel", "names", "[Ljava/lang/String;", false)
  | _ => ("", "", "", false)
def xY3 : Nat → FieldType := fun k => match k with
  | 0 => .int
  | 1 => .array (.byte)
  | 2 => .int
  | 3 => .int
  | 4 => .array (.object "java/lang/String")
  | 5 => .array (.object "java/lang/String")
  | 6 => .int
  | 7 => .int
  | 8 => .int
  | 9 => .long
  | 10 => .object "java/lang/String"
  | 11 => .int
  | 12 => .int
  | 13 => .int
  | 14 => .int
  | 15 => .array (.object "NotationReaderModel$Value")
  | 16 => .array (.int)
  | 17 => .array (.int)
  | 18 => .array (.int)
  | 19 => .array (.int)
  | 20 => .array (.object "java/lang/String")
  | _ => .int
def xT4 : u_T := fun k => match k with
  | 0 => ("java/util/ArrayList", "elementData", "[Ljava/lang/Object;", false)
  | 1 => ("java/util/ArrayList", "size", "I", false)
  | 2 => ("java/util/AbstractList", "modCount", "I", false)
  | _ => ("", "", "", false)
def xY4 : Nat → FieldType := fun k => match k with
  | 0 => .array (.object "java/lang/Object")
  | 1 => .int
  | 2 => .int
  | _ => .int
def xT5 : u_T := fun k => match k with
  | _ => ("", "", "", false)
def xY5 : Nat → FieldType := fun k => match k with
  | _ => .int
def xT6 : u_T := fun k => match k with
  | _ => ("", "", "", false)
def xY6 : Nat → FieldType := fun k => match k with
  | _ => .int
def xT7 : u_T := fun k => match k with
  | _ => ("", "", "", false)
def xY7 : Nat → FieldType := fun k => match k with
  | _ => .int
def xT8 : u_T := fun k => match k with
  | _ => ("", "", "", false)
def xY8 : Nat → FieldType := fun k => match k with
  | _ => .int
def xT9 : u_T := fun k => match k with
  | _ => ("", "", "", false)
def xY9 : Nat → FieldType := fun k => match k with
  | _ => .int
def x_cl : List vw_C := [("NotationReader", xT0, 3), ("NotationReader$Tape", xT1, 6), ("NotationReader$Token", xT2, 6), ("NotationReaderModel", xT3, 21), ("java/util/ArrayList", xT4, 3), ("java/lang/IndexOutOfBoundsException", xT5, 0), ("java/lang/IllegalArgumentException", xT6, 0), ("java/lang/UnsupportedOperationException", xT7, 0), ("java/util/NoSuchElementException", xT8, 0), ("java/lang/String", xT9, 0)]
def x_ct : Nat → Nat → FieldType := fun ci => match ci with
  | 0 => xY0
  | 1 => xY1
  | 2 => xY2
  | 3 => xY3
  | 4 => xY4
  | 5 => xY5
  | 6 => xY6
  | 7 => xY7
  | 8 => xY8
  | 9 => xY9
  | _ => fun _ => .int
def x_cd : Nat → List Value := fun ci => match ci with
  | 0 => [.null, .null, .int 0]
  | 1 => [.null, .null, .int 0, .int 0, .null, .null]
  | 2 => [.int 0, .int 0, .int 0, .int 0, .int 0, .long 0]
  | 3 => [.int 0, .null, .int 0, .int 0, .null, .null, .int 0, .int 0, .int 0, .long 0, .null, .int 0, .int 0, .int 0, .int 0, .null, .null, .null, .null, .null, .null]
  | 4 => [.null, .int 0, .int 0]
  | 5 => []
  | 6 => []
  | 7 => []
  | 8 => []
  | 9 => []
  | _ => []
def x_aty : List FieldType := [.byte, .int, .long, .object "java/lang/String", .object "NotationReaderModel$Value", .object "java/lang/Object"]
def x_sb : List (Nat × Nat) := [(3, 9)]
def x_nc : List (Nat × Nat) := [(5, 6), (5, 7), (5, 8), (6, 5), (6, 7), (6, 8), (7, 5), (7, 6), (7, 8), (8, 5), (8, 6), (8, 7)]
def xlk (l : List (Nat × ab_N)) (x : Nat) : Option ab_N := (l.find? (fun q => q.1 == x)).map (fun q => q.2)
def xP0 : List (Nat × ab_N) := [(8, (2, 0, 0, .null)), (50, (1, 10, 0, .null)), (51, (2, 3, 0, .null)), (53, (1, 33, 0, .null)), (54, (1, 1, 0, .null)), (59, (1, 36, 2, .null)), (60, (1, 34, 2, .null)), (63, (1, 2, 0, .null)), (66, (1, 37, 2, .null)), (67, (1, 3, 0, .null)), (70, (1, 38, 2, .null)), (71, (1, 14, 2, .null)), (74, (1, 39, 2, .null)), (75, (1, 4, 0, .null)), (78, (1, 40, 2, .null)), (79, (1, 5, 0, .null)), (81, (1, 41, 2, .null)), (82, (1, 6, 0, .null)), (84, (1, 42, 2, .null)), (85, (1, 7, 0, .null)), (87, (1, 43, 2, .null)), (88, (1, 8, 0, .null)), (90, (1, 44, 2, .null)), (91, (1, 9, 0, .null)), (93, (1, 45, 2, .null))]
def xC0 : List (Nat × Instr × Nat × Nat) := [(0, .new 8, 3, 0), (3, .dup, 1, 0), (4, .invokespecial 50, 3, 0), (7, .astore_n 1, 1, 0), (8, .new 51, 3, 0), (11, .dup, 1, 0), (12, .invokespecial 53, 3, 0), (15, .astore_n 2, 1, 0), (16, .iconst 1, 1, 0), (17, .newarray .long, 2, 0), (19, .astore_n 3, 1, 0), (20, .iconst 0, 1, 0), (21, .istore 4, 2, 0), (23, .iload 4, 2, 0), (25, .aload_n 0, 1, 0), (26, .arraylength, 1, 0), (27, .bipush 6, 2, 0), (29, .isub, 1, 0), (30, .if_icmp .gt 679, 3, 709), (33, .aload_n 0, 1, 0), (34, .iload 4, 2, 0), (36, .iaload, 1, 0), (37, .bipush 15, 2, 0), (39, .iand, 1, 0), (40, .tableswitch 663 0 9 #[56, 160, 216, 260, 273, 341, 409, 464, 532, 607], 56, 0), (96, .aload_n 1, 1, 0), (97, .aload_n 0, 1, 0), (98, .iload 4, 2, 0), (100, .iconst 1, 1, 0), (101, .iadd, 1, 0), (102, .iaload, 1, 0), (103, .aload_n 0, 1, 0), (104, .iload 4, 2, 0), (106, .iconst 2, 1, 0), (107, .iadd, 1, 0), (108, .iaload, 1, 0), (109, .aload_n 0, 1, 0), (110, .iload 4, 2, 0), (112, .iconst 3, 1, 0), (113, .iadd, 1, 0), (114, .iaload, 1, 0), (115, .aload_n 0, 1, 0), (116, .iload 4, 2, 0), (118, .iconst 4, 1, 0), (119, .iadd, 1, 0), (120, .iaload, 1, 0), (121, .aload_n 0, 1, 0), (122, .iload 4, 2, 0), (124, .iconst 5, 1, 0), (125, .iadd, 1, 0), (126, .iaload, 1, 0), (127, .aload_n 3, 1, 0), (128, .invokestatic 54, 3, 0), (131, .istore 5, 2, 0), (133, .aload_n 2, 1, 0), (134, .aload_n 0, 1, 0), (135, .iload 4, 2, 0), (137, .iconst 1, 1, 0), (138, .iadd, 1, 0), (139, .iaload, 1, 0), (140, .aload_n 0, 1, 0), (141, .iload 4, 2, 0), (143, .iconst 2, 1, 0), (144, .iadd, 1, 0), (145, .iaload, 1, 0), (146, .aload_n 0, 1, 0), (147, .iload 4, 2, 0), (149, .iconst 3, 1, 0), (150, .iadd, 1, 0), (151, .iaload, 1, 0), (152, .aload_n 0, 1, 0), (153, .iload 4, 2, 0), (155, .iconst 4, 1, 0), (156, .iadd, 1, 0), (157, .iaload, 1, 0), (158, .aload_n 0, 1, 0), (159, .iload 4, 2, 0), (161, .iconst 5, 1, 0), (162, .iadd, 1, 0), (163, .iaload, 1, 0), (164, .invokevirtual 59, 3, 0), (167, .istore 6, 2, 0), (169, .aload_n 2, 1, 0), (170, .invokevirtual 60, 3, 0), (173, .iload 5, 2, 0), (175, .if_icmp .eq 5, 3, 180), (178, .iconst 0, 1, 0), (179, .ireturn, 1, 0), (180, .iload 5, 2, 0), (182, .ifCond .ne 15, 3, 197), (185, .aload_n 3, 1, 0), (186, .iconst 0, 1, 0), (187, .laload, 1, 0), (188, .iload 6, 2, 0), (190, .i2l, 1, 0), (191, .lcmp, 1, 0), (192, .ifCond .eq 5, 3, 197), (195, .iconst 0, 1, 0), (196, .ireturn, 1, 0), (197, .goto 506, 3, 703), (200, .aload_n 1, 1, 0), (201, .aload_n 0, 1, 0), (202, .iload 4, 2, 0), (204, .iconst 1, 1, 0), (205, .iadd, 1, 0), (206, .iaload, 1, 0), (207, .aload_n 3, 1, 0), (208, .invokestatic 63, 3, 0), (211, .istore 5, 2, 0), (213, .aload_n 2, 1, 0), (214, .aload_n 0, 1, 0), (215, .iload 4, 2, 0), (217, .iconst 1, 1, 0), (218, .iadd, 1, 0), (219, .iaload, 1, 0), (220, .invokevirtual 66, 3, 0), (223, .istore 6, 2, 0), (225, .aload_n 2, 1, 0), (226, .invokevirtual 60, 3, 0), (229, .iload 5, 2, 0), (231, .if_icmp .eq 5, 3, 236), (234, .iconst 0, 1, 0), (235, .ireturn, 1, 0), (236, .iload 5, 2, 0), (238, .ifCond .ne 15, 3, 253), (241, .aload_n 3, 1, 0), (242, .iconst 0, 1, 0), (243, .laload, 1, 0), (244, .iload 6, 2, 0), (246, .i2l, 1, 0), (247, .lcmp, 1, 0), (248, .ifCond .eq 5, 3, 253), (251, .iconst 0, 1, 0), (252, .ireturn, 1, 0), (253, .goto 450, 3, 703), (256, .aload_n 1, 1, 0), (257, .aload_n 3, 1, 0), (258, .invokestatic 67, 3, 0), (261, .istore 5, 2, 0), (263, .aload_n 2, 1, 0), (264, .invokevirtual 70, 3, 0), (267, .istore 6, 2, 0), (269, .aload_n 2, 1, 0), (270, .invokevirtual 60, 3, 0), (273, .iload 5, 2, 0), (275, .if_icmp .eq 5, 3, 280), (278, .iconst 0, 1, 0), (279, .ireturn, 1, 0), (280, .iload 5, 2, 0), (282, .ifCond .ne 15, 3, 297), (285, .aload_n 3, 1, 0), (286, .iconst 0, 1, 0), (287, .laload, 1, 0), (288, .iload 6, 2, 0), (290, .i2l, 1, 0), (291, .lcmp, 1, 0), (292, .ifCond .eq 5, 3, 297), (295, .iconst 0, 1, 0), (296, .ireturn, 1, 0), (297, .goto 406, 3, 703), (300, .aload_n 1, 1, 0), (301, .invokevirtual 71, 3, 0), (304, .aload_n 2, 1, 0), (305, .invokevirtual 74, 3, 0), (308, .if_icmp .eq 395, 3, 703), (311, .iconst 0, 1, 0), (312, .ireturn, 1, 0), (313, .aload_n 1, 1, 0), (314, .aload_n 0, 1, 0), (315, .iload 4, 2, 0), (317, .iconst 1, 1, 0), (318, .iadd, 1, 0), (319, .iaload, 1, 0), (320, .aload_n 0, 1, 0), (321, .iload 4, 2, 0), (323, .iconst 2, 1, 0), (324, .iadd, 1, 0), (325, .iaload, 1, 0), (326, .aload_n 3, 1, 0), (327, .invokestatic 75, 3, 0), (330, .istore 5, 2, 0), (332, .aload_n 2, 1, 0), (333, .aload_n 0, 1, 0), (334, .iload 4, 2, 0), (336, .iconst 1, 1, 0), (337, .iadd, 1, 0), (338, .iaload, 1, 0), (339, .aload_n 0, 1, 0), (340, .iload 4, 2, 0), (342, .iconst 2, 1, 0), (343, .iadd, 1, 0), (344, .iaload, 1, 0), (345, .invokevirtual 78, 3, 0), (348, .istore 6, 2, 0), (350, .aload_n 2, 1, 0), (351, .invokevirtual 60, 3, 0), (354, .iload 5, 2, 0), (356, .if_icmp .eq 5, 3, 361), (359, .iconst 0, 1, 0), (360, .ireturn, 1, 0), (361, .iload 5, 2, 0), (363, .ifCond .ne 15, 3, 378), (366, .aload_n 3, 1, 0), (367, .iconst 0, 1, 0), (368, .laload, 1, 0), (369, .iload 6, 2, 0), (371, .i2l, 1, 0), (372, .lcmp, 1, 0), (373, .ifCond .eq 5, 3, 378), (376, .iconst 0, 1, 0), (377, .ireturn, 1, 0), (378, .goto 325, 3, 703), (381, .aload_n 1, 1, 0), (382, .aload_n 0, 1, 0), (383, .iload 4, 2, 0), (385, .iconst 1, 1, 0), (386, .iadd, 1, 0), (387, .iaload, 1, 0), (388, .aload_n 0, 1, 0), (389, .iload 4, 2, 0), (391, .iconst 2, 1, 0), (392, .iadd, 1, 0), (393, .iaload, 1, 0), (394, .aload_n 3, 1, 0), (395, .invokestatic 79, 3, 0), (398, .istore 5, 2, 0), (400, .aload_n 2, 1, 0), (401, .aload_n 0, 1, 0), (402, .iload 4, 2, 0), (404, .iconst 1, 1, 0), (405, .iadd, 1, 0), (406, .iaload, 1, 0), (407, .aload_n 0, 1, 0), (408, .iload 4, 2, 0), (410, .iconst 2, 1, 0), (411, .iadd, 1, 0), (412, .iaload, 1, 0), (413, .invokevirtual 81, 3, 0), (416, .istore 6, 2, 0), (418, .aload_n 2, 1, 0), (419, .invokevirtual 60, 3, 0), (422, .iload 5, 2, 0), (424, .if_icmp .eq 5, 3, 429), (427, .iconst 0, 1, 0), (428, .ireturn, 1, 0), (429, .iload 5, 2, 0), (431, .ifCond .ne 15, 3, 446), (434, .aload_n 3, 1, 0), (435, .iconst 0, 1, 0), (436, .laload, 1, 0), (437, .iload 6, 2, 0), (439, .i2l, 1, 0), (440, .lcmp, 1, 0), (441, .ifCond .eq 5, 3, 446), (444, .iconst 0, 1, 0), (445, .ireturn, 1, 0), (446, .goto 257, 3, 703), (449, .aload_n 1, 1, 0), (450, .aload_n 0, 1, 0), (451, .iload 4, 2, 0), (453, .iconst 1, 1, 0), (454, .iadd, 1, 0), (455, .iaload, 1, 0), (456, .aload_n 3, 1, 0), (457, .invokestatic 82, 3, 0), (460, .istore 5, 2, 0), (462, .aload_n 2, 1, 0), (463, .aload_n 0, 1, 0), (464, .iload 4, 2, 0), (466, .iconst 1, 1, 0), (467, .iadd, 1, 0), (468, .iaload, 1, 0), (469, .invokevirtual 84, 3, 0), (472, .lstore 6, 2, 0), (474, .aload_n 2, 1, 0), (475, .invokevirtual 60, 3, 0), (478, .iload 5, 2, 0), (480, .if_icmp .eq 5, 3, 485), (483, .iconst 0, 1, 0), (484, .ireturn, 1, 0), (485, .iload 5, 2, 0), (487, .ifCond .ne 14, 3, 501), (490, .aload_n 3, 1, 0), (491, .iconst 0, 1, 0), (492, .laload, 1, 0), (493, .lload 6, 2, 0), (495, .lcmp, 1, 0), (496, .ifCond .eq 5, 3, 501), (499, .iconst 0, 1, 0), (500, .ireturn, 1, 0), (501, .goto 202, 3, 703), (504, .aload_n 1, 1, 0), (505, .aload_n 0, 1, 0), (506, .iload 4, 2, 0), (508, .iconst 1, 1, 0), (509, .iadd, 1, 0), (510, .iaload, 1, 0), (511, .aload_n 0, 1, 0), (512, .iload 4, 2, 0), (514, .iconst 2, 1, 0), (515, .iadd, 1, 0), (516, .iaload, 1, 0), (517, .aload_n 3, 1, 0), (518, .invokestatic 85, 3, 0), (521, .istore 5, 2, 0), (523, .aload_n 2, 1, 0), (524, .aload_n 0, 1, 0), (525, .iload 4, 2, 0), (527, .iconst 1, 1, 0), (528, .iadd, 1, 0), (529, .iaload, 1, 0), (530, .aload_n 0, 1, 0), (531, .iload 4, 2, 0), (533, .iconst 2, 1, 0), (534, .iadd, 1, 0), (535, .iaload, 1, 0), (536, .invokevirtual 87, 3, 0), (539, .istore 6, 2, 0), (541, .aload_n 2, 1, 0), (542, .invokevirtual 60, 3, 0), (545, .iload 5, 2, 0), (547, .if_icmp .eq 5, 3, 552), (550, .iconst 0, 1, 0), (551, .ireturn, 1, 0), (552, .iload 5, 2, 0), (554, .ifCond .ne 15, 3, 569), (557, .aload_n 3, 1, 0), (558, .iconst 0, 1, 0), (559, .laload, 1, 0), (560, .iload 6, 2, 0), (562, .i2l, 1, 0), (563, .lcmp, 1, 0), (564, .ifCond .eq 5, 3, 569), (567, .iconst 0, 1, 0), (568, .ireturn, 1, 0), (569, .goto 134, 3, 703), (572, .aload_n 1, 1, 0), (573, .aload_n 0, 1, 0), (574, .iload 4, 2, 0), (576, .iconst 1, 1, 0), (577, .iadd, 1, 0), (578, .iaload, 1, 0), (579, .aload_n 0, 1, 0), (580, .iload 4, 2, 0), (582, .iconst 2, 1, 0), (583, .iadd, 1, 0), (584, .iaload, 1, 0), (585, .aload_n 3, 1, 0), (586, .invokestatic 88, 3, 0), (589, .istore 5, 2, 0), (591, .aload_n 2, 1, 0), (592, .aload_n 0, 1, 0), (593, .iload 4, 2, 0), (595, .iconst 1, 1, 0), (596, .iadd, 1, 0), (597, .iaload, 1, 0), (598, .aload_n 0, 1, 0), (599, .iload 4, 2, 0), (601, .iconst 2, 1, 0), (602, .iadd, 1, 0), (603, .iaload, 1, 0), (604, .invokevirtual 90, 3, 0), (607, .istore 6, 2, 0), (609, .aload_n 2, 1, 0), (610, .invokevirtual 60, 3, 0), (613, .iload 5, 2, 0), (615, .if_icmp .eq 5, 3, 620), (618, .iconst 0, 1, 0), (619, .ireturn, 1, 0), (620, .iload 5, 2, 0), (622, .ifCond .ne 22, 3, 644), (625, .aload_n 3, 1, 0), (626, .iconst 0, 1, 0), (627, .laload, 1, 0), (628, .iload 6, 2, 0), (630, .ifCond .eq 7, 3, 637), (633, .lconst 1, 1, 0), (634, .goto 4, 3, 638), (637, .lconst 0, 1, 0), (638, .lcmp, 1, 0), (639, .ifCond .eq 5, 3, 644), (642, .iconst 0, 1, 0), (643, .ireturn, 1, 0), (644, .goto 59, 3, 703), (647, .aload_n 1, 1, 0), (648, .aload_n 0, 1, 0), (649, .iload 4, 2, 0), (651, .iconst 1, 1, 0), (652, .iadd, 1, 0), (653, .iaload, 1, 0), (654, .aload_n 3, 1, 0), (655, .invokestatic 91, 3, 0), (658, .istore 5, 2, 0), (660, .aload_n 2, 1, 0), (661, .aload_n 0, 1, 0), (662, .iload 4, 2, 0), (664, .iconst 1, 1, 0), (665, .iadd, 1, 0), (666, .iaload, 1, 0), (667, .invokevirtual 93, 3, 0), (670, .istore 6, 2, 0), (672, .aload_n 2, 1, 0), (673, .invokevirtual 60, 3, 0), (676, .iload 5, 2, 0), (678, .if_icmp .eq 5, 3, 683), (681, .iconst 0, 1, 0), (682, .ireturn, 1, 0), (683, .iload 5, 2, 0), (685, .ifCond .ne 15, 3, 700), (688, .aload_n 3, 1, 0), (689, .iconst 0, 1, 0), (690, .laload, 1, 0), (691, .iload 6, 2, 0), (693, .i2l, 1, 0), (694, .lcmp, 1, 0), (695, .ifCond .eq 5, 3, 700), (698, .iconst 0, 1, 0), (699, .ireturn, 1, 0), (700, .goto 3, 3, 703), (703, .iinc 4 6, 3, 0), (706, .goto (-683), 3, 23), (709, .iconst 1, 1, 0), (710, .ireturn, 1, 0)]
/-- NotationReaderLaw.law([I)Z -/
def xM0 : ab_M := (⟨"NotationReaderLaw", "law", "([I)Z"⟩, code, 8, some .boolean, 1, true, [], xlk xP0, xC0)
def xP1 : List (Nat × ab_N) := [(7, (1, 11, 2, .null)), (13, (11, 5, 0, .null))]
def xC1 : List (Nat × Instr × Nat × Nat) := [(0, .aload 6, 2, 0), (2, .iconst 0, 1, 0), (3, .aload_n 0, 1, 0), (4, .iload_n 1, 1, 0), (5, .iload_n 2, 1, 0), (6, .iload_n 3, 1, 0), (7, .iload 4, 2, 0), (9, .iload 5, 2, 0), (11, .invokevirtual 7, 3, 0), (14, .i2l, 1, 0), (15, .lastore, 1, 0), (16, .goto 7, 3, 23), (19, .astore 7, 2, 0), (21, .iconst 1, 1, 0), (22, .ireturn, 1, 0), (23, .iconst 0, 1, 0), (24, .ireturn, 1, 0)]
/-- NotationReaderLaw.feed(LNotationReader;IIIII[J)I -/
def xM1 : ab_M := (⟨"NotationReaderLaw", "feed", "(LNotationReader;IIIII[J)I"⟩, method_3_code, 8, some .int, 7, true, [(0, 16, 19, 13)], xlk xP1, xC1)
def xP2 : List (Nat × ab_N) := [(15, (1, 12, 2, .null)), (19, (11, 6, 0, .null))]
def xC2 : List (Nat × Instr × Nat × Nat) := [(0, .aload_n 2, 1, 0), (1, .iconst 0, 1, 0), (2, .aload_n 0, 1, 0), (3, .iload_n 1, 1, 0), (4, .invokevirtual 15, 3, 0), (7, .i2l, 1, 0), (8, .lastore, 1, 0), (9, .goto 6, 3, 15), (12, .astore_n 3, 1, 0), (13, .iconst 1, 1, 0), (14, .ireturn, 1, 0), (15, .iconst 0, 1, 0), (16, .ireturn, 1, 0)]
/-- NotationReaderLaw.end(LNotationReader;I[J)I -/
def xM2 : ab_M := (⟨"NotationReaderLaw", "end", "(LNotationReader;I[J)I"⟩, method_4_code, 4, some .int, 3, true, [(0, 9, 12, 19)], xlk xP2, xC2)
def xP3 : List (Nat × ab_N) := [(21, (1, 13, 2, .null)), (25, (11, 7, 0, .null))]
def xC3 : List (Nat × Instr × Nat × Nat) := [(0, .aload_n 1, 1, 0), (1, .iconst 0, 1, 0), (2, .aload_n 0, 1, 0), (3, .invokevirtual 21, 3, 0), (6, .i2l, 1, 0), (7, .lastore, 1, 0), (8, .goto 6, 3, 14), (11, .astore_n 2, 1, 0), (12, .iconst 1, 1, 0), (13, .ireturn, 1, 0), (14, .iconst 0, 1, 0), (15, .ireturn, 1, 0)]
/-- NotationReaderLaw.read(LNotationReader;[J)I -/
def xM3 : ab_M := (⟨"NotationReaderLaw", "read", "(LNotationReader;[J)I"⟩, method_5_code, 3, some .int, 2, true, [(0, 8, 11, 25)], xlk xP3, xC3)
def xP4 : List (Nat × ab_N) := [(19, (11, 6, 0, .null)), (27, (1, 15, 2, .null))]
def xC4 : List (Nat × Instr × Nat × Nat) := [(0, .aload_n 3, 1, 0), (1, .iconst 0, 1, 0), (2, .aload_n 0, 1, 0), (3, .iload_n 1, 1, 0), (4, .iload_n 2, 1, 0), (5, .invokevirtual 27, 3, 0), (8, .i2l, 1, 0), (9, .lastore, 1, 0), (10, .goto 7, 3, 17), (13, .astore 4, 2, 0), (15, .iconst 1, 1, 0), (16, .ireturn, 1, 0), (17, .iconst 0, 1, 0), (18, .ireturn, 1, 0)]
/-- NotationReaderLaw.node(LNotationReader;II[J)I -/
def xM4 : ab_M := (⟨"NotationReaderLaw", "node", "(LNotationReader;II[J)I"⟩, method_6_code, 5, some .int, 4, true, [(0, 10, 13, 19)], xlk xP4, xC4)
def xP5 : List (Nat × ab_N) := [(19, (11, 6, 0, .null)), (31, (1, 16, 2, .null)), (34, (11, 8, 0, .null))]
def xC5 : List (Nat × Instr × Nat × Nat) := [(0, .aload_n 3, 1, 0), (1, .iconst 0, 1, 0), (2, .aload_n 0, 1, 0), (3, .iload_n 1, 1, 0), (4, .iload_n 2, 1, 0), (5, .invokevirtual 31, 3, 0), (8, .i2l, 1, 0), (9, .lastore, 1, 0), (10, .goto 11, 3, 21), (13, .astore 4, 2, 0), (15, .iconst 1, 1, 0), (16, .ireturn, 1, 0), (17, .astore 4, 2, 0), (19, .iconst 2, 1, 0), (20, .ireturn, 1, 0), (21, .iconst 0, 1, 0), (22, .ireturn, 1, 0)]
/-- NotationReaderLaw.part(LNotationReader;II[J)I -/
def xM5 : ab_M := (⟨"NotationReaderLaw", "part", "(LNotationReader;II[J)I"⟩, method_7_code, 5, some .int, 4, true, [(0, 10, 13, 19), (0, 10, 17, 34)], xlk xP5, xC5)
def xP6 : List (Nat × ab_N) := [(19, (11, 6, 0, .null)), (25, (11, 7, 0, .null)), (36, (1, 17, 2, .null))]
def xC6 : List (Nat × Instr × Nat × Nat) := [(0, .aload_n 2, 1, 0), (1, .iconst 0, 1, 0), (2, .aload_n 0, 1, 0), (3, .iload_n 1, 1, 0), (4, .invokevirtual 36, 3, 0), (7, .lastore, 1, 0), (8, .goto 9, 3, 17), (11, .astore_n 3, 1, 0), (12, .iconst 1, 1, 0), (13, .ireturn, 1, 0), (14, .astore_n 3, 1, 0), (15, .iconst 2, 1, 0), (16, .ireturn, 1, 0), (17, .iconst 0, 1, 0), (18, .ireturn, 1, 0)]
/-- NotationReaderLaw.number(LNotationReader;I[J)I -/
def xM6 : ab_M := (⟨"NotationReaderLaw", "number", "(LNotationReader;I[J)I"⟩, method_8_code, 4, some .int, 3, true, [(0, 8, 11, 19), (0, 8, 14, 25)], xlk xP6, xC6)
def xP7 : List (Nat × ab_N) := [(19, (11, 6, 0, .null)), (34, (11, 8, 0, .null)), (40, (1, 18, 2, .null))]
def xC7 : List (Nat × Instr × Nat × Nat) := [(0, .aload_n 3, 1, 0), (1, .iconst 0, 1, 0), (2, .aload_n 0, 1, 0), (3, .iload_n 1, 1, 0), (4, .iload_n 2, 1, 0), (5, .invokevirtual 40, 3, 0), (8, .i2l, 1, 0), (9, .lastore, 1, 0), (10, .goto 11, 3, 21), (13, .astore 4, 2, 0), (15, .iconst 1, 1, 0), (16, .ireturn, 1, 0), (17, .astore 4, 2, 0), (19, .iconst 2, 1, 0), (20, .ireturn, 1, 0), (21, .iconst 0, 1, 0), (22, .ireturn, 1, 0)]
/-- NotationReaderLaw.unit(LNotationReader;II[J)I -/
def xM7 : ab_M := (⟨"NotationReaderLaw", "unit", "(LNotationReader;II[J)I"⟩, method_9_code, 5, some .int, 4, true, [(0, 10, 13, 19), (0, 10, 17, 34)], xlk xP7, xC7)
def xP8 : List (Nat × ab_N) := [(19, (11, 6, 0, .null)), (25, (11, 7, 0, .null)), (43, (1, 19, 2, .null))]
def xC8 : List (Nat × Instr × Nat × Nat) := [(0, .aload_n 3, 1, 0), (1, .iconst 0, 1, 0), (2, .aload_n 0, 1, 0), (3, .iload_n 1, 1, 0), (4, .iload_n 2, 1, 0), (5, .invokevirtual 43, 3, 0), (8, .ifCond .eq 7, 3, 15), (11, .lconst 1, 1, 0), (12, .goto 4, 3, 16), (15, .lconst 0, 1, 0), (16, .lastore, 1, 0), (17, .goto 11, 3, 28), (20, .astore 4, 2, 0), (22, .iconst 1, 1, 0), (23, .ireturn, 1, 0), (24, .astore 4, 2, 0), (26, .iconst 2, 1, 0), (27, .ireturn, 1, 0), (28, .iconst 0, 1, 0), (29, .ireturn, 1, 0)]
/-- NotationReaderLaw.same(LNotationReader;II[J)I -/
def xM8 : ab_M := (⟨"NotationReaderLaw", "same", "(LNotationReader;II[J)I"⟩, method_10_code, 5, some .int, 4, true, [(0, 17, 20, 19), (0, 17, 24, 25)], xlk xP8, xC8)
def xP9 : List (Nat × ab_N) := [(19, (11, 6, 0, .null)), (47, (1, 20, 2, .null))]
def xC9 : List (Nat × Instr × Nat × Nat) := [(0, .aload_n 2, 1, 0), (1, .iconst 0, 1, 0), (2, .aload_n 0, 1, 0), (3, .iload_n 1, 1, 0), (4, .invokevirtual 47, 3, 0), (7, .i2l, 1, 0), (8, .lastore, 1, 0), (9, .goto 6, 3, 15), (12, .astore_n 3, 1, 0), (13, .iconst 1, 1, 0), (14, .ireturn, 1, 0), (15, .iconst 0, 1, 0), (16, .ireturn, 1, 0)]
/-- NotationReaderLaw.count(LNotationReader;I[J)I -/
def xM9 : ab_M := (⟨"NotationReaderLaw", "count", "(LNotationReader;I[J)I"⟩, method_11_code, 4, some .int, 3, true, [(0, 9, 12, 19)], xlk xP9, xC9)
def xP10 : List (Nat × ab_N) := [(1, (5, 0, 0, .null)), (7, (2, 1, 0, .null)), (9, (1, 25, 0, .null)), (10, (0, 0, 0, .int 1)), (16, (2, 4, 0, .null)), (18, (1, 52, 0, .null)), (19, (0, 0, 1, .int 1)), (23, (0, 0, 2, .null))]
def xC10 : List (Nat × Instr × Nat × Nat) := [(0, .aload_n 0, 1, 0), (1, .invokespecial 1, 3, 0), (4, .aload_n 0, 1, 0), (5, .new 7, 3, 0), (8, .dup, 1, 0), (9, .invokespecial 9, 3, 0), (12, .putfield 10, 3, 0), (15, .aload_n 0, 1, 0), (16, .new 16, 3, 0), (19, .dup, 1, 0), (20, .invokespecial 18, 3, 0), (23, .putfield 19, 3, 0), (26, .aload_n 0, 1, 0), (27, .iconst (-1), 1, 0), (28, .putfield 23, 3, 0), (31, .return_, 1, 0)]
/-- NotationReader.<init>()V -/
def xM10 : ab_M := (⟨"NotationReader", "<init>", "()V"⟩, prog_1_method_1_code, 1, none, 0, false, [], xlk xP10, xC10)
def xP11 : List (Nat × ab_N) := [(10, (0, 0, 0, .int 1)), (27, (0, 1, 3, .null)), (30, (9, 5, 0, .null)), (32, (7, 0, 0, .float 1)), (34, (10, 5, 0, .null)), (37, (1, 26, 2, .null))]
def xC11 : List (Nat × Instr × Nat × Nat) := [(0, .aload_n 0, 1, 0), (1, .getfield 10, 3, 0), (4, .getfield 27, 3, 0), (7, .sipush 4076, 3, 0), (10, .if_icmp .le 13, 3, 23), (13, .new 30, 3, 0), (16, .dup, 1, 0), (17, .ldc 32, 2, 0), (19, .invokespecial 34, 3, 0), (22, .athrow, 1, 0), (23, .aload_n 0, 1, 0), (24, .getfield 10, 3, 0), (27, .iload_n 1, 1, 0), (28, .invokevirtual 37, 3, 0), (31, .aload_n 0, 1, 0), (32, .getfield 10, 3, 0), (35, .iload_n 2, 1, 0), (36, .invokevirtual 37, 3, 0), (39, .aload_n 0, 1, 0), (40, .getfield 10, 3, 0), (43, .iload_n 3, 1, 0), (44, .invokevirtual 37, 3, 0), (47, .aload_n 0, 1, 0), (48, .getfield 10, 3, 0), (51, .iload 4, 2, 0), (53, .invokevirtual 37, 3, 0), (56, .aload_n 0, 1, 0), (57, .getfield 10, 3, 0), (60, .iload 5, 2, 0), (62, .invokevirtual 37, 3, 0), (65, .aload_n 0, 1, 0), (66, .getfield 10, 3, 0), (69, .getfield 27, 3, 0), (72, .ireturn, 1, 0)]
/-- NotationReader.feed(IIIII)I -/
def xM11 : ab_M := (⟨"NotationReader", "feed", "(IIIII)I"⟩, prog_1_method_2_code, 6, some .int, 5, false, [], xlk xP11, xC11)
def xP12 : List (Nat × ab_N) := [(10, (0, 0, 0, .int 1)), (27, (0, 1, 3, .null)), (41, (9, 6, 0, .null)), (43, (7, 0, 0, .float 2)), (45, (10, 6, 0, .null))]
def xC12 : List (Nat × Instr × Nat × Nat) := [(0, .iload_n 1, 1, 0), (1, .ifCond .lt 14, 3, 15), (4, .iload_n 1, 1, 0), (5, .aload_n 0, 1, 0), (6, .getfield 10, 3, 0), (9, .getfield 27, 3, 0), (12, .if_icmp .le 13, 3, 25), (15, .new 41, 3, 0), (18, .dup, 1, 0), (19, .ldc 43, 2, 0), (21, .invokespecial 45, 3, 0), (24, .athrow, 1, 0), (25, .aload_n 0, 1, 0), (26, .getfield 10, 3, 0), (29, .iload_n 1, 1, 0), (30, .putfield 27, 3, 0), (33, .iload_n 1, 1, 0), (34, .ireturn, 1, 0)]
/-- NotationReader.end(I)I -/
def xM12 : ab_M := (⟨"NotationReader", "end", "(I)I"⟩, prog_1_method_3_code, 2, some .int, 1, false, [], xlk xP12, xC12)
def xP13 : List (Nat × ab_N) := [(10, (0, 0, 0, .int 1)), (19, (0, 0, 1, .int 1)), (23, (0, 0, 2, .null)), (27, (0, 1, 3, .null)), (46, (1, 53, 2, .null)), (49, (1, 27, 2, .null)), (52, (1, 22, 2, .null)), (58, (1, 54, 2, .null))]
def xC13 : List (Nat × Instr × Nat × Nat) := [(0, .aload_n 0, 1, 0), (1, .getfield 19, 3, 0), (4, .invokevirtual 46, 3, 0), (7, .aload_n 0, 1, 0), (8, .getfield 10, 3, 0), (11, .invokevirtual 49, 3, 0), (14, .aload_n 0, 1, 0), (15, .iconst 0, 1, 0), (16, .invokevirtual 52, 3, 0), (19, .aload_n 0, 1, 0), (20, .bipush 26, 2, 0), (22, .invokevirtual 55, 3, 0), (25, .aload_n 0, 1, 0), (26, .getfield 10, 3, 0), (29, .iconst 0, 1, 0), (30, .putfield 27, 3, 0), (33, .aload_n 0, 1, 0), (34, .iconst (-1), 1, 0), (35, .putfield 23, 3, 0), (38, .aload_n 0, 1, 0), (39, .getfield 19, 3, 0), (42, .invokevirtual 58, 3, 0), (45, .ireturn, 1, 0)]
/-- NotationReader.read()I -/
def xM13 : ab_M := (⟨"NotationReader", "read", "()I"⟩, prog_1_method_4_code, 1, some .int, 0, false, [], xlk xP13, xC13)
def xP14 : List (Nat × ab_N) := [(23, (0, 0, 2, .null))]
def xC14 : List (Nat × Instr × Nat × Nat) := [(0, .aload_n 0, 1, 0), (1, .getfield 23, 3, 0), (4, .ireturn, 1, 0)]
/-- NotationReader.place()I -/
def xM14 : ab_M := (⟨"NotationReader", "place", "()I"⟩, prog_1_method_5_code, 1, some .int, 0, false, [], xlk xP14, xC14)
def xP15 : List (Nat × ab_N) := [(41, (9, 6, 0, .null)), (45, (10, 6, 0, .null)), (62, (1, 21, 2, .null)), (80, (7, 0, 0, .float 3))]
def xC15 : List (Nat × Instr × Nat × Nat) := [(0, .aload_n 0, 1, 0), (1, .iload_n 1, 1, 0), (2, .invokevirtual 62, 3, 0), (5, .astore_n 3, 1, 0), (6, .iload_n 2, 1, 0), (7, .tableswitch 49 0 3 #[29, 34, 39, 44], 29, 0), (36, .aload_n 3, 1, 0), (37, .getfield 66, 3, 0), (40, .ireturn, 1, 0), (41, .aload_n 3, 1, 0), (42, .getfield 71, 3, 0), (45, .ireturn, 1, 0), (46, .aload_n 3, 1, 0), (47, .getfield 74, 3, 0), (50, .ireturn, 1, 0), (51, .aload_n 3, 1, 0), (52, .invokevirtual 77, 3, 0), (55, .ireturn, 1, 0), (56, .new 41, 3, 0), (59, .dup, 1, 0), (60, .ldc 80, 2, 0), (62, .invokespecial 45, 3, 0), (65, .athrow, 1, 0)]
/-- NotationReader.node(II)I -/
def xM15 : ab_M := (⟨"NotationReader", "node", "(II)I"⟩, prog_1_method_6_code, 4, some .int, 2, false, [], xlk xP15, xC15)
def xP16 : List (Nat × ab_N) := [(19, (0, 0, 1, .int 1)), (58, (1, 54, 2, .null)), (62, (1, 21, 2, .null)), (82, (9, 8, 0, .null)), (84, (7, 0, 0, .float 4))]
def xC16 : List (Nat × Instr × Nat × Nat) := [(0, .aload_n 0, 1, 0), (1, .iload_n 1, 1, 0), (2, .invokevirtual 62, 3, 0), (5, .astore_n 3, 1, 0), (6, .iload_n 2, 1, 0), (7, .ifCond .lt 11, 3, 18), (10, .iload_n 2, 1, 0), (11, .aload_n 3, 1, 0), (12, .getfield 74, 3, 0), (15, .if_icmp .lt 13, 3, 28), (18, .new 82, 3, 0), (21, .dup, 1, 0), (22, .ldc 84, 2, 0), (24, .invokespecial 86, 3, 0), (27, .athrow, 1, 0), (28, .iload_n 1, 1, 0), (29, .iconst 1, 1, 0), (30, .iadd, 1, 0), (31, .istore 4, 2, 0), (33, .iconst 0, 1, 0), (34, .istore 5, 2, 0), (36, .iload 5, 2, 0), (38, .iload_n 2, 1, 0), (39, .if_icmp .ge 38, 3, 77), (42, .iload 4, 2, 0), (44, .aload_n 0, 1, 0), (45, .getfield 19, 3, 0), (48, .invokevirtual 58, 3, 0), (51, .if_icmp .ge 26, 3, 77), (54, .aload_n 0, 1, 0), (55, .getfield 19, 3, 0), (58, .iload 4, 2, 0), (60, .invokevirtual 87, 3, 0), (63, .checkcast 67, 3, 0), (66, .getfield 91, 3, 0), (69, .istore 4, 2, 0), (71, .iinc 5 1, 3, 0), (74, .goto (-38), 3, 36), (77, .iload 4, 2, 0), (79, .ireturn, 1, 0)]
/-- NotationReader.part(II)I -/
def xM16 : ab_M := (⟨"NotationReader", "part", "(II)I"⟩, prog_1_method_7_code, 6, some .int, 2, false, [], xlk xP16, xC16)
def xP17 : List (Nat × ab_N) := [(62, (1, 21, 2, .null)), (94, (9, 7, 0, .null)), (96, (7, 0, 0, .float 5)), (98, (10, 7, 0, .null))]
def xC17 : List (Nat × Instr × Nat × Nat) := [(0, .aload_n 0, 1, 0), (1, .iload_n 1, 1, 0), (2, .invokevirtual 62, 3, 0), (5, .astore_n 2, 1, 0), (6, .aload_n 2, 1, 0), (7, .getfield 66, 3, 0), (10, .iconst 4, 1, 0), (11, .if_icmp .eq 13, 3, 24), (14, .new 94, 3, 0), (17, .dup, 1, 0), (18, .ldc 96, 2, 0), (20, .invokespecial 98, 3, 0), (23, .athrow, 1, 0), (24, .aload_n 2, 1, 0), (25, .getfield 99, 3, 0), (28, .lreturn, 1, 0)]
/-- NotationReader.number(I)J -/
def xM17 : ab_M := (⟨"NotationReader", "number", "(I)J"⟩, prog_1_method_8_code, 3, some .long, 1, false, [], xlk xP17, xC17)
def xP18 : List (Nat × ab_N) := [(10, (0, 0, 0, .int 1)), (62, (1, 21, 2, .null)), (82, (9, 8, 0, .null)), (102, (7, 0, 0, .float 6))]
def xC18 : List (Nat × Instr × Nat × Nat) := [(0, .aload_n 0, 1, 0), (1, .iload_n 1, 1, 0), (2, .invokevirtual 62, 3, 0), (5, .astore_n 3, 1, 0), (6, .iload_n 2, 1, 0), (7, .ifCond .lt 11, 3, 18), (10, .iload_n 2, 1, 0), (11, .aload_n 3, 1, 0), (12, .invokevirtual 77, 3, 0), (15, .if_icmp .lt 13, 3, 28), (18, .new 82, 3, 0), (21, .dup, 1, 0), (22, .ldc 102, 2, 0), (24, .invokespecial 86, 3, 0), (27, .athrow, 1, 0), (28, .aload_n 0, 1, 0), (29, .getfield 10, 3, 0), (32, .aload_n 3, 1, 0), (33, .getfield 104, 3, 0), (36, .iload_n 2, 1, 0), (37, .iadd, 1, 0), (38, .invokevirtual 107, 3, 0), (41, .ireturn, 1, 0)]
/-- NotationReader.unit(II)I -/
def xM18 : ab_M := (⟨"NotationReader", "unit", "(II)I"⟩, prog_1_method_9_code, 4, some .int, 2, false, [], xlk xP18, xC18)
def xP19 : List (Nat × ab_N) := [(10, (0, 0, 0, .int 1)), (62, (1, 21, 2, .null)), (94, (9, 7, 0, .null)), (98, (10, 7, 0, .null)), (115, (7, 0, 0, .float 7))]
def xC19 : List (Nat × Instr × Nat × Nat) := [(0, .aload_n 0, 1, 0), (1, .iload_n 1, 1, 0), (2, .invokevirtual 62, 3, 0), (5, .astore_n 3, 1, 0), (6, .aload_n 0, 1, 0), (7, .iload_n 2, 1, 0), (8, .invokevirtual 62, 3, 0), (11, .astore 4, 2, 0), (13, .aload_n 3, 1, 0), (14, .invokevirtual 111, 3, 0), (17, .ifCond .eq 11, 3, 28), (20, .aload 4, 2, 0), (22, .invokevirtual 111, 3, 0), (25, .ifCond .ne 13, 3, 38), (28, .new 94, 3, 0), (31, .dup, 1, 0), (32, .ldc 115, 2, 0), (34, .invokespecial 98, 3, 0), (37, .athrow, 1, 0), (38, .aload_n 3, 1, 0), (39, .getfield 117, 3, 0), (42, .aload 4, 2, 0), (44, .getfield 117, 3, 0), (47, .if_icmp .ne 7, 3, 54), (50, .iconst 1, 1, 0), (51, .goto 4, 3, 55), (54, .iconst 0, 1, 0), (55, .istore 5, 2, 0), (57, .iconst 0, 1, 0), (58, .istore 6, 2, 0), (60, .iload 6, 2, 0), (62, .aload_n 3, 1, 0), (63, .getfield 117, 3, 0), (66, .if_icmp .ge 53, 3, 119), (69, .iload 5, 2, 0), (71, .ifCond .eq 48, 3, 119), (74, .aload_n 0, 1, 0), (75, .getfield 10, 3, 0), (78, .aload_n 3, 1, 0), (79, .getfield 104, 3, 0), (82, .iload 6, 2, 0), (84, .iadd, 1, 0), (85, .invokevirtual 107, 3, 0), (88, .aload_n 0, 1, 0), (89, .getfield 10, 3, 0), (92, .aload 4, 2, 0), (94, .getfield 104, 3, 0), (97, .iload 6, 2, 0), (99, .iadd, 1, 0), (100, .invokevirtual 107, 3, 0), (103, .if_icmp .ne 7, 3, 110), (106, .iconst 1, 1, 0), (107, .goto 4, 3, 111), (110, .iconst 0, 1, 0), (111, .istore 5, 2, 0), (113, .iinc 6 1, 3, 0), (116, .goto (-56), 3, 60), (119, .iload 5, 2, 0), (121, .ireturn, 1, 0)]
/-- NotationReader.same(II)Z -/
def xM19 : ab_M := (⟨"NotationReader", "same", "(II)Z"⟩, prog_1_method_10_code, 7, some .boolean, 2, false, [], xlk xP19, xC19)
def xP20 : List (Nat × ab_N) := [(10, (0, 0, 0, .int 1)), (19, (0, 0, 1, .int 1)), (27, (0, 1, 3, .null)), (41, (9, 6, 0, .null)), (45, (10, 6, 0, .null)), (58, (1, 54, 2, .null)), (120, (7, 0, 0, .float 8))]
def xC20 : List (Nat × Instr × Nat × Nat) := [(0, .iload_n 1, 1, 0), (1, .ifCond .eq 18, 3, 19), (4, .iload_n 1, 1, 0), (5, .iconst 1, 1, 0), (6, .if_icmp .eq 13, 3, 19), (9, .new 41, 3, 0), (12, .dup, 1, 0), (13, .ldc 120, 2, 0), (15, .invokespecial 45, 3, 0), (18, .athrow, 1, 0), (19, .iload_n 1, 1, 0), (20, .ifCond .ne 13, 3, 33), (23, .aload_n 0, 1, 0), (24, .getfield 10, 3, 0), (27, .getfield 27, 3, 0), (30, .goto 10, 3, 40), (33, .aload_n 0, 1, 0), (34, .getfield 19, 3, 0), (37, .invokevirtual 58, 3, 0), (40, .ireturn, 1, 0)]
/-- NotationReader.count(I)I -/
def xM20 : ab_M := (⟨"NotationReader", "count", "(I)I"⟩, prog_1_method_11_code, 2, some .int, 1, false, [], xlk xP20, xC20)
def xP21 : List (Nat × ab_N) := [(19, (0, 0, 1, .int 1)), (41, (9, 6, 0, .null)), (45, (10, 6, 0, .null)), (58, (1, 54, 2, .null)), (122, (7, 0, 0, .float 9))]
def xC21 : List (Nat × Instr × Nat × Nat) := [(0, .iload_n 1, 1, 0), (1, .ifCond .lt 14, 3, 15), (4, .iload_n 1, 1, 0), (5, .aload_n 0, 1, 0), (6, .getfield 19, 3, 0), (9, .invokevirtual 58, 3, 0), (12, .if_icmp .lt 13, 3, 25), (15, .new 41, 3, 0), (18, .dup, 1, 0), (19, .ldc 122, 2, 0), (21, .invokespecial 45, 3, 0), (24, .athrow, 1, 0), (25, .aload_n 0, 1, 0), (26, .getfield 19, 3, 0), (29, .iload_n 1, 1, 0), (30, .invokevirtual 87, 3, 0), (33, .checkcast 67, 3, 0), (36, .areturn, 1, 0)]
/-- NotationReader.nodeAt(I)LNotationReader$Node; -/
def xM21 : ab_M := (⟨"NotationReader", "nodeAt", "(I)LNotationReader$Node;"⟩, prog_1_method_12_code, 2, some (.object "NotationReader$Node"), 1, false, [], xlk xP21, xC21)
def xP22 : List (Nat × ab_N) := [(10, (0, 0, 0, .int 1)), (124, (0, 1, 4, .null)), (128, (0, 2, 0, .null)), (134, (0, 1, 5, .null)), (143, (1, 23, 0, .null)), (150, (1, 28, 2, .null)), (153, (1, 24, 2, .null))]
def xC22 : List (Nat × Instr × Nat × Nat) := [(0, .aload_n 0, 1, 0), (1, .getfield 10, 3, 0), (4, .getfield 124, 3, 0), (7, .getfield 128, 3, 0), (10, .istore_n 2, 1, 0), (11, .iload_n 2, 1, 0), (12, .bipush 21, 2, 0), (14, .if_icmp .ne 11, 3, 25), (17, .aload_n 0, 1, 0), (18, .iload_n 1, 1, 0), (19, .invokevirtual 131, 3, 0), (22, .goto 71, 3, 93), (25, .iload_n 2, 1, 0), (26, .iconst 5, 1, 0), (27, .if_icmp .ne 26, 3, 53), (30, .aload_n 0, 1, 0), (31, .getfield 10, 3, 0), (34, .getfield 134, 3, 0), (37, .getfield 128, 3, 0), (40, .bipush 24, 2, 0), (42, .if_icmp .ne 11, 3, 53), (45, .aload_n 0, 1, 0), (46, .iload_n 1, 1, 0), (47, .invokevirtual 137, 3, 0), (50, .goto 43, 3, 93), (53, .iload_n 2, 1, 0), (54, .bipush 25, 2, 0), (56, .if_icmp .ne 10, 3, 66), (59, .aload_n 0, 1, 0), (60, .invokevirtual 140, 3, 0), (63, .goto 30, 3, 93), (66, .iload_n 2, 1, 0), (67, .invokestatic 143, 3, 0), (70, .ifCond .eq 19, 3, 89), (73, .aload_n 0, 1, 0), (74, .iload_n 2, 1, 0), (75, .invokevirtual 147, 3, 0), (78, .pop, 1, 0), (79, .aload_n 0, 1, 0), (80, .getfield 10, 3, 0), (83, .invokevirtual 150, 3, 0), (86, .goto 7, 3, 93), (89, .aload_n 0, 1, 0), (90, .invokevirtual 153, 3, 0), (93, .return_, 1, 0)]
/-- NotationReader.value(I)V -/
def xM22 : ab_M := (⟨"NotationReader", "value", "(I)V"⟩, prog_1_method_13_code, 3, none, 1, false, [], xlk xP22, xC22)
def xP23 : List (Nat × ab_N) := []
def xC23 : List (Nat × Instr × Nat × Nat) := [(0, .iload_n 0, 1, 0), (1, .iconst 1, 1, 0), (2, .if_icmp .lt 9, 3, 11), (5, .iload_n 0, 1, 0), (6, .bipush 8, 2, 0), (8, .if_icmp .le 15, 3, 23), (11, .iload_n 0, 1, 0), (12, .bipush 21, 2, 0), (14, .if_icmp .eq 9, 3, 23), (17, .iload_n 0, 1, 0), (18, .bipush 25, 2, 0), (20, .if_icmp .ne 7, 3, 27), (23, .iconst 1, 1, 0), (24, .goto 4, 3, 28), (27, .iconst 0, 1, 0), (28, .ireturn, 1, 0)]
/-- NotationReader.beginsValue(I)Z -/
def xM23 : ab_M := (⟨"NotationReader", "beginsValue", "(I)Z"⟩, prog_1_method_20_code, 1, some .boolean, 1, true, [], xlk xP23, xC23)
def xP24 : List (Nat × ab_N) := [(10, (0, 0, 0, .int 1)), (19, (0, 0, 1, .int 1)), (23, (0, 0, 2, .null)), (27, (0, 1, 3, .null)), (46, (1, 53, 2, .null)), (94, (9, 7, 0, .null)), (98, (10, 7, 0, .null)), (124, (0, 1, 4, .null)), (177, (0, 2, 1, .null)), (178, (7, 0, 0, .float 10))]
def xC24 : List (Nat × Instr × Nat × Nat) := [(0, .aload_n 0, 1, 0), (1, .aload_n 0, 1, 0), (2, .getfield 10, 3, 0), (5, .getfield 124, 3, 0), (8, .getfield 177, 3, 0), (11, .putfield 23, 3, 0), (14, .aload_n 0, 1, 0), (15, .getfield 19, 3, 0), (18, .invokevirtual 46, 3, 0), (21, .aload_n 0, 1, 0), (22, .getfield 10, 3, 0), (25, .iconst 0, 1, 0), (26, .putfield 27, 3, 0), (29, .new 94, 3, 0), (32, .dup, 1, 0), (33, .ldc 178, 2, 0), (35, .invokespecial 98, 3, 0), (38, .athrow, 1, 0)]
/-- NotationReader.refuse()V -/
def xM24 : ab_M := (⟨"NotationReader", "refuse", "()V"⟩, prog_1_method_24_code, 1, none, 0, false, [], xlk xP24, xC24)
def xP25 : List (Nat × ab_N) := [(3, (5, 0, 0, .null)), (9, (0, 1, 0, .int 1)), (15, (0, 1, 1, .int 1)), (18, (2, 2, 0, .null)), (20, (1, 31, 0, .null)), (21, (0, 1, 4, .null)), (25, (0, 1, 5, .null))]
def xC25 : List (Nat × Instr × Nat × Nat) := [(0, .aload_n 0, 1, 0), (1, .invokespecial 3, 3, 0), (4, .aload_n 0, 1, 0), (5, .sipush 4096, 3, 0), (8, .newarray .byte, 2, 0), (10, .putfield 9, 3, 0), (13, .aload_n 0, 1, 0), (14, .sipush 4096, 3, 0), (17, .newarray .byte, 2, 0), (19, .putfield 15, 3, 0), (22, .aload_n 0, 1, 0), (23, .new 18, 3, 0), (26, .dup, 1, 0), (27, .invokespecial 20, 3, 0), (30, .putfield 21, 3, 0), (33, .aload_n 0, 1, 0), (34, .new 18, 3, 0), (37, .dup, 1, 0), (38, .invokespecial 20, 3, 0), (41, .putfield 25, 3, 0), (44, .return_, 1, 0)]
/-- NotationReader$Tape.<init>()V -/
def xM25 : ab_M := (⟨"NotationReader$Tape", "<init>", "()V"⟩, prog_3_method_1_code, 1, none, 0, false, [], xlk xP25, xC25)
def xP26 : List (Nat × ab_N) := [(9, (0, 1, 0, .int 1)), (28, (0, 1, 3, .null))]
def xC26 : List (Nat × Instr × Nat × Nat) := [(0, .bipush 24, 2, 0), (2, .istore_n 2, 1, 0), (3, .iload_n 2, 1, 0), (4, .ifCond .lt 44, 3, 48), (7, .aload_n 0, 1, 0), (8, .getfield 28, 3, 0), (11, .aload_n 0, 1, 0), (12, .getfield 9, 3, 0), (15, .arraylength, 1, 0), (16, .if_icmp .ge 26, 3, 42), (19, .aload_n 0, 1, 0), (20, .getfield 9, 3, 0), (23, .aload_n 0, 1, 0), (24, .getfield 28, 3, 0), (27, .iload_n 1, 1, 0), (28, .iload_n 2, 1, 0), (29, .iushr, 1, 0), (30, .i2b, 1, 0), (31, .bastore, 1, 0), (32, .aload_n 0, 1, 0), (33, .dup, 1, 0), (34, .getfield 28, 3, 0), (37, .iconst 1, 1, 0), (38, .iadd, 1, 0), (39, .putfield 28, 3, 0), (42, .iinc 2 (-8), 3, 0), (45, .goto (-42), 3, 3), (48, .return_, 1, 0)]
/-- NotationReader$Tape.put(I)V -/
def xM26 : ab_M := (⟨"NotationReader$Tape", "put", "(I)V"⟩, prog_3_method_2_code, 3, none, 1, false, [], xlk xP26, xC26)
def xP27 : List (Nat × ab_N) := [(25, (0, 1, 5, .null)), (32, (0, 1, 2, .null)), (35, (0, 2, 2, .null)), (38, (1, 28, 2, .null))]
def xC27 : List (Nat × Instr × Nat × Nat) := [(0, .aload_n 0, 1, 0), (1, .iconst 0, 1, 0), (2, .putfield 32, 3, 0), (5, .aload_n 0, 1, 0), (6, .getfield 25, 3, 0), (9, .iconst 0, 1, 0), (10, .putfield 35, 3, 0), (13, .aload_n 0, 1, 0), (14, .invokevirtual 38, 3, 0), (17, .aload_n 0, 1, 0), (18, .invokevirtual 38, 3, 0), (21, .return_, 1, 0)]
/-- NotationReader$Tape.start()V -/
def xM27 : ab_M := (⟨"NotationReader$Tape", "start", "()V"⟩, prog_3_method_4_code, 1, none, 0, false, [], xlk xP27, xC27)
def xP28 : List (Nat × ab_N) := [(21, (0, 1, 4, .null)), (25, (0, 1, 5, .null)), (28, (0, 1, 3, .null)), (32, (0, 1, 2, .null)), (35, (0, 2, 2, .null)), (41, (1, 29, 2, .null)), (45, (0, 2, 1, .null)), (48, (0, 2, 3, .null)), (51, (0, 2, 5, .null)), (55, (1, 32, 2, .null)), (59, (1, 30, 2, .null)), (86, (0, 2, 4, .null))]
def xC28 : List (Nat × Instr × Nat × Nat) := [(0, .aload_n 0, 1, 0), (1, .getfield 21, 3, 0), (4, .astore_n 1, 1, 0), (5, .aload_n 0, 1, 0), (6, .aload_n 0, 1, 0), (7, .getfield 25, 3, 0), (10, .putfield 21, 3, 0), (13, .aload_n 0, 1, 0), (14, .aload_n 1, 1, 0), (15, .putfield 25, 3, 0), (18, .aload_n 0, 1, 0), (19, .getfield 25, 3, 0), (22, .aload_n 0, 1, 0), (23, .aload_n 0, 1, 0), (24, .getfield 21, 3, 0), (27, .getfield 35, 3, 0), (30, .invokevirtual 41, 3, 0), (33, .putfield 45, 3, 0), (36, .aload_n 0, 1, 0), (37, .getfield 25, 3, 0), (40, .aload_n 0, 1, 0), (41, .getfield 32, 3, 0), (44, .putfield 48, 3, 0), (47, .aload_n 0, 1, 0), (48, .getfield 25, 3, 0), (51, .lconst 0, 1, 0), (52, .putfield 51, 3, 0), (55, .aload_n 0, 1, 0), (56, .getfield 25, 3, 0), (59, .bipush 27, 2, 0), (61, .aload_n 0, 1, 0), (62, .getfield 28, 3, 0), (65, .invokevirtual 55, 3, 0), (68, .aload_n 0, 1, 0), (69, .aload_n 0, 1, 0), (70, .getfield 25, 3, 0), (73, .getfield 45, 3, 0), (76, .invokevirtual 59, 3, 0), (79, .istore_n 2, 1, 0), (80, .iload_n 2, 1, 0), (81, .ifCond .ge 19, 3, 100), (84, .aload_n 0, 1, 0), (85, .getfield 25, 3, 0), (88, .bipush 26, 2, 0), (90, .aload_n 0, 1, 0), (91, .getfield 28, 3, 0), (94, .invokevirtual 55, 3, 0), (97, .goto 82, 3, 179), (100, .iload_n 2, 1, 0), (101, .invokestatic 62, 3, 0), (104, .ifCond .eq 14, 3, 118), (107, .aload_n 0, 1, 0), (108, .aload_n 0, 1, 0), (109, .getfield 25, 3, 0), (112, .invokevirtual 66, 3, 0), (115, .goto 64, 3, 179), (118, .iload_n 2, 1, 0), (119, .invokestatic 70, 3, 0), (122, .ifCond .eq 14, 3, 136), (125, .aload_n 0, 1, 0), (126, .aload_n 0, 1, 0), (127, .getfield 25, 3, 0), (130, .invokevirtual 73, 3, 0), (133, .goto 46, 3, 179), (136, .iload_n 2, 1, 0), (137, .bipush 34, 2, 0), (139, .if_icmp .ne 14, 3, 153), (142, .aload_n 0, 1, 0), (143, .aload_n 0, 1, 0), (144, .getfield 25, 3, 0), (147, .invokevirtual 76, 3, 0), (150, .goto 29, 3, 179), (153, .iload_n 2, 1, 0), (154, .bipush 39, 2, 0), (156, .if_icmp .ne 14, 3, 170), (159, .aload_n 0, 1, 0), (160, .aload_n 0, 1, 0), (161, .getfield 25, 3, 0), (164, .invokevirtual 79, 3, 0), (167, .goto 12, 3, 179), (170, .aload_n 0, 1, 0), (171, .aload_n 0, 1, 0), (172, .getfield 25, 3, 0), (175, .iload_n 2, 1, 0), (176, .invokevirtual 82, 3, 0), (179, .aload_n 0, 1, 0), (180, .getfield 25, 3, 0), (183, .aload_n 0, 1, 0), (184, .getfield 32, 3, 0), (187, .aload_n 0, 1, 0), (188, .getfield 25, 3, 0), (191, .getfield 48, 3, 0), (194, .isub, 1, 0), (195, .putfield 86, 3, 0), (198, .return_, 1, 0)]
/-- NotationReader$Tape.advance()V -/
def xM28 : ab_M := (⟨"NotationReader$Tape", "advance", "()V"⟩, prog_3_method_5_code, 3, none, 0, false, [], xlk xP28, xC28)
def xP29 : List (Nat × ab_N) := [(28, (0, 1, 3, .null)), (59, (1, 30, 2, .null))]
def xC29 : List (Nat × Instr × Nat × Nat) := [(0, .iconst 0, 1, 0), (1, .istore_n 2, 1, 0), (2, .iload_n 1, 1, 0), (3, .istore_n 3, 1, 0), (4, .iload_n 3, 1, 0), (5, .aload_n 0, 1, 0), (6, .getfield 28, 3, 0), (9, .if_icmp .ge 80, 3, 89), (12, .aload_n 0, 1, 0), (13, .iload_n 3, 1, 0), (14, .invokevirtual 59, 3, 0), (17, .istore 4, 2, 0), (19, .iload 4, 2, 0), (21, .bipush 45, 2, 0), (23, .if_icmp .ne 31, 3, 54), (26, .aload_n 0, 1, 0), (27, .iload_n 3, 1, 0), (28, .iconst 1, 1, 0), (29, .iadd, 1, 0), (30, .invokevirtual 59, 3, 0), (33, .bipush 45, 2, 0), (35, .if_icmp .ne 19, 3, 54), (38, .iload_n 2, 1, 0), (39, .ifCond .ne 7, 3, 46), (42, .iconst 1, 1, 0), (43, .goto 4, 3, 47), (46, .iconst 0, 1, 0), (47, .istore_n 2, 1, 0), (48, .iinc 3 2, 3, 0), (51, .goto 35, 3, 86), (54, .iload_n 2, 1, 0), (55, .ifCond .ne 11, 3, 66), (58, .iload 4, 2, 0), (60, .invokestatic 129, 3, 0), (63, .ifCond .eq 26, 3, 89), (66, .iload_n 2, 1, 0), (67, .ifCond .eq 14, 3, 81), (70, .iload 4, 2, 0), (72, .bipush 10, 2, 0), (74, .if_icmp .eq 7, 3, 81), (77, .iconst 1, 1, 0), (78, .goto 4, 3, 82), (81, .iconst 0, 1, 0), (82, .istore_n 2, 1, 0), (83, .iinc 3 1, 3, 0), (86, .goto (-82), 3, 4), (89, .iload_n 3, 1, 0), (90, .ireturn, 1, 0)]
/-- NotationReader$Tape.blanksEnd(I)I -/
def xM29 : ab_M := (⟨"NotationReader$Tape", "blanksEnd", "(I)I"⟩, prog_3_method_12_code, 5, some .int, 1, false, [], xlk xP29, xC29)
def xP30 : List (Nat × ab_N) := [(9, (0, 1, 0, .int 1)), (28, (0, 1, 3, .null))]
def xC30 : List (Nat × Instr × Nat × Nat) := [(0, .iload_n 1, 1, 0), (1, .ifCond .lt 33, 3, 34), (4, .iload_n 1, 1, 0), (5, .aload_n 0, 1, 0), (6, .getfield 28, 3, 0), (9, .if_icmp .ge 25, 3, 34), (12, .iload_n 1, 1, 0), (13, .aload_n 0, 1, 0), (14, .getfield 9, 3, 0), (17, .arraylength, 1, 0), (18, .if_icmp .ge 16, 3, 34), (21, .aload_n 0, 1, 0), (22, .getfield 9, 3, 0), (25, .iload_n 1, 1, 0), (26, .baload, 1, 0), (27, .sipush 255, 3, 0), (30, .iand, 1, 0), (31, .goto 4, 3, 35), (34, .iconst (-1), 1, 0), (35, .ireturn, 1, 0)]
/-- NotationReader$Tape.at(I)I -/
def xM30 : ab_M := (⟨"NotationReader$Tape", "at", "(I)I"⟩, prog_3_method_14_code, 2, some .int, 1, false, [], xlk xP30, xC30)
def xP31 : List (Nat × ab_N) := [(3, (5, 0, 0, .null)), (9, (0, 2, 0, .null))]
def xC31 : List (Nat × Instr × Nat × Nat) := [(0, .aload_n 0, 1, 0), (1, .invokespecial 3, 3, 0), (4, .aload_n 0, 1, 0), (5, .bipush 26, 2, 0), (7, .putfield 9, 3, 0), (10, .return_, 1, 0)]
/-- NotationReader$Token.<init>()V -/
def xM31 : ab_M := (⟨"NotationReader$Token", "<init>", "()V"⟩, prog_4_method_1_code, 1, none, 0, false, [], xlk xP31, xC31)
def xP32 : List (Nat × ab_N) := [(9, (0, 2, 0, .null)), (15, (0, 2, 2, .null))]
def xC32 : List (Nat × Instr × Nat × Nat) := [(0, .aload_n 0, 1, 0), (1, .iload_n 1, 1, 0), (2, .putfield 9, 3, 0), (5, .aload_n 0, 1, 0), (6, .iload_n 2, 1, 0), (7, .putfield 15, 3, 0), (10, .return_, 1, 0)]
/-- NotationReader$Token.accept(II)V -/
def xM32 : ab_M := (⟨"NotationReader$Token", "accept", "(II)V"⟩, prog_4_method_2_code, 3, none, 2, false, [], xlk xP32, xC32)
def xP33 : List (Nat × ab_N) := [(1, (5, 0, 0, .null)), (7, (0, 3, 1, .int 1)), (13, (0, 3, 3, .null)), (17, (6, 3, 0, .null)), (19, (7, 0, 0, .float 11)), (21, (7, 0, 0, .float 12)), (23, (7, 0, 0, .float 13)), (25, (7, 0, 0, .float 14)), (27, (7, 0, 0, .float 15)), (29, (7, 0, 0, .float 16)), (31, (7, 0, 0, .float 17)), (33, (7, 0, 0, .float 18)), (35, (7, 0, 0, .float 19)), (37, (7, 0, 0, .float 20)), (39, (7, 0, 0, .float 21)), (41, (7, 0, 0, .float 22)), (43, (0, 3, 4, .int 1)), (47, (7, 0, 0, .float 23)), (49, (7, 0, 0, .float 24)), (51, (7, 0, 0, .float 25)), (53, (7, 0, 0, .float 26)), (55, (7, 0, 0, .float 27)), (57, (7, 0, 0, .float 28)), (59, (7, 0, 0, .float 29)), (61, (7, 0, 0, .float 30)), (63, (7, 0, 0, .float 31)), (65, (7, 0, 0, .float 32)), (67, (7, 0, 0, .float 33)), (69, (7, 0, 0, .float 34)), (71, (7, 0, 0, .float 35)), (73, (7, 0, 0, .float 36)), (75, (7, 0, 0, .float 37)), (77, (7, 0, 0, .float 38)), (79, (7, 0, 0, .float 39)), (81, (7, 0, 0, .float 40)), (83, (7, 0, 0, .float 41)), (85, (7, 0, 0, .float 42)), (87, (7, 0, 0, .float 43)), (89, (7, 0, 0, .float 44)), (91, (7, 0, 0, .float 45)), (93, (7, 0, 0, .float 46)), (95, (7, 0, 0, .float 47)), (97, (7, 0, 0, .float 48)), (99, (7, 0, 0, .float 49)), (101, (7, 0, 0, .float 50)), (103, (7, 0, 0, .float 51)), (105, (7, 0, 0, .float 52)), (107, (7, 0, 0, .float 53)), (109, (7, 0, 0, .float 54)), (111, (7, 0, 0, .float 55)), (113, (7, 0, 0, .float 56)), (115, (7, 0, 0, .float 57)), (117, (0, 3, 5, .int 1)), (120, (6, 4, 0, .null)), (122, (0, 3, 15, .null)), (126, (0, 3, 16, .null)), (130, (0, 3, 17, .null)), (133, (0, 3, 18, .null)), (136, (0, 3, 19, .null)), (139, (0, 3, 20, .null))]
def xC33 : List (Nat × Instr × Nat × Nat) := [(0, .aload_n 0, 1, 0), (1, .invokespecial 1, 3, 0), (4, .aload_n 0, 1, 0), (5, .sipush 4096, 3, 0), (8, .newarray .byte, 2, 0), (10, .putfield 7, 3, 0), (13, .aload_n 0, 1, 0), (14, .iconst (-1), 1, 0), (15, .putfield 13, 3, 0), (18, .aload_n 0, 1, 0), (19, .bipush 12, 2, 0), (21, .anewarray 17, 3, 0), (24, .dup, 1, 0), (25, .iconst 0, 1, 0), (26, .ldc 19, 2, 0), (28, .aastore, 1, 0), (29, .dup, 1, 0), (30, .iconst 1, 1, 0), (31, .ldc 21, 2, 0), (33, .aastore, 1, 0), (34, .dup, 1, 0), (35, .iconst 2, 1, 0), (36, .ldc 23, 2, 0), (38, .aastore, 1, 0), (39, .dup, 1, 0), (40, .iconst 3, 1, 0), (41, .ldc 25, 2, 0), (43, .aastore, 1, 0), (44, .dup, 1, 0), (45, .iconst 4, 1, 0), (46, .ldc 27, 2, 0), (48, .aastore, 1, 0), (49, .dup, 1, 0), (50, .iconst 5, 1, 0), (51, .ldc 29, 2, 0), (53, .aastore, 1, 0), (54, .dup, 1, 0), (55, .bipush 6, 2, 0), (57, .ldc 31, 2, 0), (59, .aastore, 1, 0), (60, .dup, 1, 0), (61, .bipush 7, 2, 0), (63, .ldc 33, 2, 0), (65, .aastore, 1, 0), (66, .dup, 1, 0), (67, .bipush 8, 2, 0), (69, .ldc 35, 2, 0), (71, .aastore, 1, 0), (72, .dup, 1, 0), (73, .bipush 9, 2, 0), (75, .ldc 37, 2, 0), (77, .aastore, 1, 0), (78, .dup, 1, 0), (79, .bipush 10, 2, 0), (81, .ldc 39, 2, 0), (83, .aastore, 1, 0), (84, .dup, 1, 0), (85, .bipush 11, 2, 0), (87, .ldc 41, 2, 0), (89, .aastore, 1, 0), (90, .putfield 43, 3, 0), (93, .aload_n 0, 1, 0), (94, .bipush 35, 2, 0), (96, .anewarray 17, 3, 0), (99, .dup, 1, 0), (100, .iconst 0, 1, 0), (101, .ldc 47, 2, 0), (103, .aastore, 1, 0), (104, .dup, 1, 0), (105, .iconst 1, 1, 0), (106, .ldc 49, 2, 0), (108, .aastore, 1, 0), (109, .dup, 1, 0), (110, .iconst 2, 1, 0), (111, .ldc 51, 2, 0), (113, .aastore, 1, 0), (114, .dup, 1, 0), (115, .iconst 3, 1, 0), (116, .ldc 53, 2, 0), (118, .aastore, 1, 0), (119, .dup, 1, 0), (120, .iconst 4, 1, 0), (121, .ldc 55, 2, 0), (123, .aastore, 1, 0), (124, .dup, 1, 0), (125, .iconst 5, 1, 0), (126, .ldc 57, 2, 0), (128, .aastore, 1, 0), (129, .dup, 1, 0), (130, .bipush 6, 2, 0), (132, .ldc 59, 2, 0), (134, .aastore, 1, 0), (135, .dup, 1, 0), (136, .bipush 7, 2, 0), (138, .ldc 61, 2, 0), (140, .aastore, 1, 0), (141, .dup, 1, 0), (142, .bipush 8, 2, 0), (144, .ldc 63, 2, 0), (146, .aastore, 1, 0), (147, .dup, 1, 0), (148, .bipush 9, 2, 0), (150, .ldc 65, 2, 0), (152, .aastore, 1, 0), (153, .dup, 1, 0), (154, .bipush 10, 2, 0), (156, .ldc 67, 2, 0), (158, .aastore, 1, 0), (159, .dup, 1, 0), (160, .bipush 11, 2, 0), (162, .ldc 69, 2, 0), (164, .aastore, 1, 0), (165, .dup, 1, 0), (166, .bipush 12, 2, 0), (168, .ldc 71, 2, 0), (170, .aastore, 1, 0), (171, .dup, 1, 0), (172, .bipush 13, 2, 0), (174, .ldc 73, 2, 0), (176, .aastore, 1, 0), (177, .dup, 1, 0), (178, .bipush 14, 2, 0), (180, .ldc 75, 2, 0), (182, .aastore, 1, 0), (183, .dup, 1, 0), (184, .bipush 15, 2, 0), (186, .ldc 77, 2, 0), (188, .aastore, 1, 0), (189, .dup, 1, 0), (190, .bipush 16, 2, 0), (192, .ldc 79, 2, 0), (194, .aastore, 1, 0), (195, .dup, 1, 0), (196, .bipush 17, 2, 0), (198, .ldc 81, 2, 0), (200, .aastore, 1, 0), (201, .dup, 1, 0), (202, .bipush 18, 2, 0), (204, .ldc 83, 2, 0), (206, .aastore, 1, 0), (207, .dup, 1, 0), (208, .bipush 19, 2, 0), (210, .ldc 85, 2, 0), (212, .aastore, 1, 0), (213, .dup, 1, 0), (214, .bipush 20, 2, 0), (216, .ldc 87, 2, 0), (218, .aastore, 1, 0), (219, .dup, 1, 0), (220, .bipush 21, 2, 0), (222, .ldc 89, 2, 0), (224, .aastore, 1, 0), (225, .dup, 1, 0), (226, .bipush 22, 2, 0), (228, .ldc 91, 2, 0), (230, .aastore, 1, 0), (231, .dup, 1, 0), (232, .bipush 23, 2, 0), (234, .ldc 93, 2, 0), (236, .aastore, 1, 0), (237, .dup, 1, 0), (238, .bipush 24, 2, 0), (240, .ldc 95, 2, 0), (242, .aastore, 1, 0), (243, .dup, 1, 0), (244, .bipush 25, 2, 0), (246, .ldc 97, 2, 0), (248, .aastore, 1, 0), (249, .dup, 1, 0), (250, .bipush 26, 2, 0), (252, .ldc 99, 2, 0), (254, .aastore, 1, 0), (255, .dup, 1, 0), (256, .bipush 27, 2, 0), (258, .ldc 101, 2, 0), (260, .aastore, 1, 0), (261, .dup, 1, 0), (262, .bipush 28, 2, 0), (264, .ldc 103, 2, 0), (266, .aastore, 1, 0), (267, .dup, 1, 0), (268, .bipush 29, 2, 0), (270, .ldc 105, 2, 0), (272, .aastore, 1, 0), (273, .dup, 1, 0), (274, .bipush 30, 2, 0), (276, .ldc 107, 2, 0), (278, .aastore, 1, 0), (279, .dup, 1, 0), (280, .bipush 31, 2, 0), (282, .ldc 109, 2, 0), (284, .aastore, 1, 0), (285, .dup, 1, 0), (286, .bipush 32, 2, 0), (288, .ldc 111, 2, 0), (290, .aastore, 1, 0), (291, .dup, 1, 0), (292, .bipush 33, 2, 0), (294, .ldc 113, 2, 0), (296, .aastore, 1, 0), (297, .dup, 1, 0), (298, .bipush 34, 2, 0), (300, .ldc 115, 2, 0), (302, .aastore, 1, 0), (303, .putfield 117, 3, 0), (306, .aload_n 0, 1, 0), (307, .bipush 64, 2, 0), (309, .anewarray 120, 3, 0), (312, .putfield 122, 3, 0), (315, .aload_n 0, 1, 0), (316, .bipush 64, 2, 0), (318, .newarray .int, 2, 0), (320, .putfield 126, 3, 0), (323, .aload_n 0, 1, 0), (324, .bipush 64, 2, 0), (326, .newarray .int, 2, 0), (328, .putfield 130, 3, 0), (331, .aload_n 0, 1, 0), (332, .bipush 64, 2, 0), (334, .newarray .int, 2, 0), (336, .putfield 133, 3, 0), (339, .aload_n 0, 1, 0), (340, .bipush 64, 2, 0), (342, .newarray .int, 2, 0), (344, .putfield 136, 3, 0), (347, .aload_n 0, 1, 0), (348, .bipush 64, 2, 0), (350, .anewarray 17, 3, 0), (353, .putfield 139, 3, 0), (356, .return_, 1, 0)]
/-- NotationReaderModel.<init>()V -/
def xM33 : ab_M := (⟨"NotationReaderModel", "<init>", "()V"⟩, prog_6_method_1_code, 1, none, 0, false, [], xlk xP33, xC33)
def xP34 : List (Nat × ab_N) := [(142, (0, 3, 0, .null))]
def xC34 : List (Nat × Instr × Nat × Nat) := [(0, .aload_n 0, 1, 0), (1, .getfield 142, 3, 0), (4, .ireturn, 1, 0)]
/-- NotationReaderModel.thrown()I -/
def xM34 : ab_M := (⟨"NotationReaderModel", "thrown", "()I"⟩, prog_6_method_2_code, 1, some .int, 0, false, [], xlk xP34, xC34)
def xP35 : List (Nat × ab_N) := [(142, (0, 3, 0, .null))]
def xC35 : List (Nat × Instr × Nat × Nat) := [(0, .aload_n 0, 1, 0), (1, .iload_n 1, 1, 0), (2, .putfield 142, 3, 0), (5, .iconst 0, 1, 0), (6, .ireturn, 1, 0)]
/-- NotationReaderModel.fail(I)I -/
def xM35 : ab_M := (⟨"NotationReaderModel", "fail", "(I)I"⟩, prog_6_method_3_code, 2, some .int, 1, false, [], xlk xP35, xC35)
def xP36 : List (Nat × ab_N) := [(7, (0, 3, 1, .int 1)), (142, (0, 3, 0, .null)), (145, (0, 3, 2, .null)), (308, (1, 35, 2, .null))]
def xC36 : List (Nat × Instr × Nat × Nat) := [(0, .aload_n 0, 1, 0), (1, .iconst 0, 1, 0), (2, .putfield 142, 3, 0), (5, .aload_n 0, 1, 0), (6, .getfield 145, 3, 0), (9, .bipush 20, 2, 0), (11, .iadd, 1, 0), (12, .sipush 4096, 3, 0), (15, .if_icmp .le 9, 3, 24), (18, .aload_n 0, 1, 0), (19, .iconst 1, 1, 0), (20, .invokevirtual 308, 3, 0), (23, .ireturn, 1, 0), (24, .iconst 0, 1, 0), (25, .istore 6, 2, 0), (27, .iload 6, 2, 0), (29, .bipush 20, 2, 0), (31, .if_icmp .ge 90, 3, 121), (34, .iload 6, 2, 0), (36, .iconst 4, 1, 0), (37, .if_icmp .ge 7, 3, 44), (40, .iload_n 1, 1, 0), (41, .goto 39, 3, 80), (44, .iload 6, 2, 0), (46, .bipush 8, 2, 0), (48, .if_icmp .ge 7, 3, 55), (51, .iload_n 2, 1, 0), (52, .goto 28, 3, 80), (55, .iload 6, 2, 0), (57, .bipush 12, 2, 0), (59, .if_icmp .ge 7, 3, 66), (62, .iload_n 3, 1, 0), (63, .goto 17, 3, 80), (66, .iload 6, 2, 0), (68, .bipush 16, 2, 0), (70, .if_icmp .ge 8, 3, 78), (73, .iload 4, 2, 0), (75, .goto 5, 3, 80), (78, .iload 5, 2, 0), (80, .istore 7, 2, 0), (82, .aload_n 0, 1, 0), (83, .getfield 7, 3, 0), (86, .aload_n 0, 1, 0), (87, .getfield 145, 3, 0), (90, .iload 7, 2, 0), (92, .bipush 24, 2, 0), (94, .bipush 8, 2, 0), (96, .iload 6, 2, 0), (98, .iconst 4, 1, 0), (99, .irem, 1, 0), (100, .imul, 1, 0), (101, .isub, 1, 0), (102, .ishr, 1, 0), (103, .i2b, 1, 0), (104, .bastore, 1, 0), (105, .aload_n 0, 1, 0), (106, .dup, 1, 0), (107, .getfield 145, 3, 0), (110, .iconst 1, 1, 0), (111, .iadd, 1, 0), (112, .putfield 145, 3, 0), (115, .iinc 6 1, 3, 0), (118, .goto (-91), 3, 27), (121, .aload_n 0, 1, 0), (122, .getfield 145, 3, 0), (125, .ireturn, 1, 0)]
/-- NotationReaderModel.feed(IIIII)I -/
def xM36 : ab_M := (⟨"NotationReaderModel", "feed", "(IIIII)I"⟩, prog_6_method_26_code, 8, some .int, 5, false, [], xlk xP36, xC36)
def xP37 : List (Nat × ab_N) := [(142, (0, 3, 0, .null)), (145, (0, 3, 2, .null)), (308, (1, 35, 2, .null))]
def xC37 : List (Nat × Instr × Nat × Nat) := [(0, .aload_n 0, 1, 0), (1, .iconst 0, 1, 0), (2, .putfield 142, 3, 0), (5, .iload_n 1, 1, 0), (6, .ifCond .lt 11, 3, 17), (9, .iload_n 1, 1, 0), (10, .aload_n 0, 1, 0), (11, .getfield 145, 3, 0), (14, .if_icmp .le 9, 3, 23), (17, .aload_n 0, 1, 0), (18, .iconst 1, 1, 0), (19, .invokevirtual 308, 3, 0), (22, .ireturn, 1, 0), (23, .aload_n 0, 1, 0), (24, .iload_n 1, 1, 0), (25, .putfield 145, 3, 0), (28, .iload_n 1, 1, 0), (29, .ireturn, 1, 0)]
/-- NotationReaderModel.end(I)I -/
def xM37 : ab_M := (⟨"NotationReaderModel", "end", "(I)I"⟩, prog_6_method_27_code, 2, some .int, 1, false, [], xlk xP37, xC37)
def xP38 : List (Nat × ab_N) := [(13, (0, 3, 3, .null)), (142, (0, 3, 0, .null)), (145, (0, 3, 2, .null)), (148, (0, 3, 11, .null)), (173, (0, 3, 7, .null)), (176, (0, 3, 6, .null)), (228, (11, 6, 0, .null)), (235, (1, 51, 2, .null)), (239, (1, 47, 2, .null)), (259, (1, 49, 2, .null)), (267, (0, 3, 12, .null)), (285, (0, 3, 14, .null))]
def xC38 : List (Nat × Instr × Nat × Nat) := [(0, .aload_n 0, 1, 0), (1, .iconst 0, 1, 0), (2, .putfield 142, 3, 0), (5, .aload_n 0, 1, 0), (6, .iconst (-1), 1, 0), (7, .putfield 13, 3, 0), (10, .aload_n 0, 1, 0), (11, .iconst 0, 1, 0), (12, .putfield 285, 3, 0), (15, .aload_n 0, 1, 0), (16, .iconst 0, 1, 0), (17, .putfield 148, 3, 0), (20, .aload_n 0, 1, 0), (21, .iconst 0, 1, 0), (22, .putfield 267, 3, 0), (25, .aload_n 0, 1, 0), (26, .invokevirtual 239, 3, 0), (29, .aload_n 0, 1, 0), (30, .invokevirtual 259, 3, 0), (33, .astore_n 1, 1, 0), (34, .aload_n 0, 1, 0), (35, .aload_n 0, 1, 0), (36, .getfield 176, 3, 0), (39, .ifCond .ne 7, 3, 46), (42, .iconst 1, 1, 0), (43, .goto 4, 3, 47), (46, .iconst 0, 1, 0), (47, .invokevirtual 235, 3, 0), (50, .aload_n 0, 1, 0), (51, .aload_n 1, 1, 0), (52, .iconst (-1), 1, 0), (53, .invokevirtual 300, 3, 0), (56, .goto 22, 3, 78), (59, .astore_n 1, 1, 0), (60, .aload_n 0, 1, 0), (61, .aload_n 0, 1, 0), (62, .getfield 173, 3, 0), (65, .putfield 13, 3, 0), (68, .aload_n 0, 1, 0), (69, .iconst 0, 1, 0), (70, .putfield 285, 3, 0), (73, .aload_n 0, 1, 0), (74, .iconst 1, 1, 0), (75, .putfield 142, 3, 0), (78, .aload_n 0, 1, 0), (79, .iconst 0, 1, 0), (80, .putfield 145, 3, 0), (83, .aload_n 0, 1, 0), (84, .getfield 142, 3, 0), (87, .ifCond .le 7, 3, 94), (90, .iconst 0, 1, 0), (91, .goto 7, 3, 98), (94, .aload_n 0, 1, 0), (95, .getfield 285, 3, 0), (98, .ireturn, 1, 0)]
/-- NotationReaderModel.read()I -/
def xM38 : ab_M := (⟨"NotationReaderModel", "read", "()I"⟩, prog_6_method_28_code, 2, some .int, 0, false, [(29, 56, 59, 228)], xlk xP38, xC38)
def xP39 : List (Nat × ab_N) := [(13, (0, 3, 3, .null)), (142, (0, 3, 0, .null))]
def xC39 : List (Nat × Instr × Nat × Nat) := [(0, .aload_n 0, 1, 0), (1, .iconst 0, 1, 0), (2, .putfield 142, 3, 0), (5, .aload_n 0, 1, 0), (6, .getfield 13, 3, 0), (9, .ireturn, 1, 0)]
/-- NotationReaderModel.place()I -/
def xM39 : ab_M := (⟨"NotationReaderModel", "place", "()I"⟩, prog_6_method_29_code, 1, some .int, 0, false, [], xlk xP39, xC39)
def xP40 : List (Nat × ab_N) := [(126, (0, 3, 16, .null)), (130, (0, 3, 17, .null)), (133, (0, 3, 18, .null)), (142, (0, 3, 0, .null)), (308, (1, 35, 2, .null)), (311, (1, 46, 2, .null))]
def xC40 : List (Nat × Instr × Nat × Nat) := [(0, .aload_n 0, 1, 0), (1, .iconst 0, 1, 0), (2, .putfield 142, 3, 0), (5, .aload_n 0, 1, 0), (6, .iload_n 1, 1, 0), (7, .invokevirtual 311, 3, 0), (10, .ifCond .ne 12, 3, 22), (13, .iload_n 2, 1, 0), (14, .ifCond .lt 8, 3, 22), (17, .iload_n 2, 1, 0), (18, .iconst 3, 1, 0), (19, .if_icmp .le 9, 3, 28), (22, .aload_n 0, 1, 0), (23, .iconst 1, 1, 0), (24, .invokevirtual 308, 3, 0), (27, .ireturn, 1, 0), (28, .iload_n 2, 1, 0), (29, .ifCond .ne 12, 3, 41), (32, .aload_n 0, 1, 0), (33, .getfield 126, 3, 0), (36, .iload_n 1, 1, 0), (37, .iaload, 1, 0), (38, .goto 36, 3, 74), (41, .iload_n 2, 1, 0), (42, .iconst 1, 1, 0), (43, .if_icmp .ne 12, 3, 55), (46, .aload_n 0, 1, 0), (47, .getfield 130, 3, 0), (50, .iload_n 1, 1, 0), (51, .iaload, 1, 0), (52, .goto 22, 3, 74), (55, .iload_n 2, 1, 0), (56, .iconst 2, 1, 0), (57, .if_icmp .ne 12, 3, 69), (60, .aload_n 0, 1, 0), (61, .getfield 133, 3, 0), (64, .iload_n 1, 1, 0), (65, .iaload, 1, 0), (66, .goto 8, 3, 74), (69, .aload_n 0, 1, 0), (70, .iload_n 1, 1, 0), (71, .invokevirtual 314, 3, 0), (74, .ireturn, 1, 0)]
/-- NotationReaderModel.node(II)I -/
def xM40 : ab_M := (⟨"NotationReaderModel", "node", "(II)I"⟩, prog_6_method_32_code, 3, some .int, 2, false, [], xlk xP40, xC40)
def xP41 : List (Nat × ab_N) := [(133, (0, 3, 18, .null)), (136, (0, 3, 19, .null)), (142, (0, 3, 0, .null)), (308, (1, 35, 2, .null)), (311, (1, 46, 2, .null))]
def xC41 : List (Nat × Instr × Nat × Nat) := [(0, .aload_n 0, 1, 0), (1, .iconst 0, 1, 0), (2, .putfield 142, 3, 0), (5, .aload_n 0, 1, 0), (6, .iload_n 1, 1, 0), (7, .invokevirtual 311, 3, 0), (10, .ifCond .eq 9, 3, 19), (13, .aload_n 0, 1, 0), (14, .iconst 1, 1, 0), (15, .invokevirtual 308, 3, 0), (18, .ireturn, 1, 0), (19, .iload_n 2, 1, 0), (20, .ifCond .lt 13, 3, 33), (23, .iload_n 2, 1, 0), (24, .aload_n 0, 1, 0), (25, .getfield 133, 3, 0), (28, .iload_n 1, 1, 0), (29, .iaload, 1, 0), (30, .if_icmp .lt 9, 3, 39), (33, .aload_n 0, 1, 0), (34, .iconst 2, 1, 0), (35, .invokevirtual 308, 3, 0), (38, .ireturn, 1, 0), (39, .iload_n 2, 1, 0), (40, .istore_n 3, 1, 0), (41, .iload_n 1, 1, 0), (42, .iconst 1, 1, 0), (43, .iadd, 1, 0), (44, .istore 4, 2, 0), (46, .aload_n 0, 1, 0), (47, .getfield 136, 3, 0), (50, .iload 4, 2, 0), (52, .iaload, 1, 0), (53, .iload_n 1, 1, 0), (54, .if_icmp .ne 7, 3, 61), (57, .iload_n 3, 1, 0), (58, .ifCond .le 23, 3, 81), (61, .aload_n 0, 1, 0), (62, .getfield 136, 3, 0), (65, .iload 4, 2, 0), (67, .iaload, 1, 0), (68, .iload_n 1, 1, 0), (69, .if_icmp .ne 6, 3, 75), (72, .iinc 3 (-1), 3, 0), (75, .iinc 4 1, 3, 0), (78, .goto (-32), 3, 46), (81, .iload 4, 2, 0), (83, .ireturn, 1, 0)]
/-- NotationReaderModel.part(II)I -/
def xM41 : ab_M := (⟨"NotationReaderModel", "part", "(II)I"⟩, prog_6_method_33_code, 5, some .int, 2, false, [], xlk xP41, xC41)
def xP42 : List (Nat × ab_N) := [(122, (0, 3, 15, .null)), (126, (0, 3, 16, .null)), (142, (0, 3, 0, .null)), (308, (1, 35, 2, .null)), (311, (1, 46, 2, .null))]
def xC42 : List (Nat × Instr × Nat × Nat) := [(0, .aload_n 0, 1, 0), (1, .iconst 0, 1, 0), (2, .putfield 142, 3, 0), (5, .aload_n 0, 1, 0), (6, .iload_n 1, 1, 0), (7, .invokevirtual 311, 3, 0), (10, .ifCond .eq 10, 3, 20), (13, .aload_n 0, 1, 0), (14, .iconst 1, 1, 0), (15, .invokevirtual 308, 3, 0), (18, .i2l, 1, 0), (19, .lreturn, 1, 0), (20, .aload_n 0, 1, 0), (21, .getfield 126, 3, 0), (24, .iload_n 1, 1, 0), (25, .iaload, 1, 0), (26, .iconst 4, 1, 0), (27, .if_icmp .ne 15, 3, 42), (30, .aload_n 0, 1, 0), (31, .getfield 122, 3, 0), (34, .iload_n 1, 1, 0), (35, .aaload, 1, 0), (36, .getfield 249, 3, 0), (39, .goto 9, 3, 48), (42, .aload_n 0, 1, 0), (43, .iconst 2, 1, 0), (44, .invokevirtual 308, 3, 0), (47, .i2l, 1, 0), (48, .lreturn, 1, 0)]
/-- NotationReaderModel.number(I)J -/
def xM42 : ab_M := (⟨"NotationReaderModel", "number", "(I)J"⟩, prog_6_method_34_code, 2, some .long, 1, false, [], xlk xP42, xC42)
def xP43 : List (Nat × ab_N) := [(122, (0, 3, 15, .null)), (142, (0, 3, 0, .null)), (308, (1, 35, 2, .null)), (311, (1, 46, 2, .null))]
def xC43 : List (Nat × Instr × Nat × Nat) := [(0, .aload_n 0, 1, 0), (1, .iconst 0, 1, 0), (2, .putfield 142, 3, 0), (5, .aload_n 0, 1, 0), (6, .iload_n 1, 1, 0), (7, .invokevirtual 311, 3, 0), (10, .ifCond .eq 9, 3, 19), (13, .aload_n 0, 1, 0), (14, .iconst 1, 1, 0), (15, .invokevirtual 308, 3, 0), (18, .ireturn, 1, 0), (19, .iload_n 2, 1, 0), (20, .ifCond .lt 12, 3, 32), (23, .iload_n 2, 1, 0), (24, .aload_n 0, 1, 0), (25, .iload_n 1, 1, 0), (26, .invokevirtual 314, 3, 0), (29, .if_icmp .lt 11, 3, 40), (32, .aload_n 0, 1, 0), (33, .iconst 2, 1, 0), (34, .invokevirtual 308, 3, 0), (37, .goto 16, 3, 53), (40, .aload_n 0, 1, 0), (41, .getfield 122, 3, 0), (44, .iload_n 1, 1, 0), (45, .aaload, 1, 0), (46, .getfield 250, 3, 0), (49, .iload_n 2, 1, 0), (50, .invokevirtual 201, 3, 0), (53, .ireturn, 1, 0)]
/-- NotationReaderModel.unit(II)I -/
def xM43 : ab_M := (⟨"NotationReaderModel", "unit", "(II)I"⟩, prog_6_method_35_code, 3, some .int, 2, false, [], xlk xP43, xC43)
def xP44 : List (Nat × ab_N) := [(139, (0, 3, 20, .null)), (142, (0, 3, 0, .null)), (308, (1, 35, 2, .null)), (311, (1, 46, 2, .null))]
def xC44 : List (Nat × Instr × Nat × Nat) := [(0, .aload_n 0, 1, 0), (1, .iconst 0, 1, 0), (2, .putfield 142, 3, 0), (5, .aload_n 0, 1, 0), (6, .iload_n 1, 1, 0), (7, .invokevirtual 311, 3, 0), (10, .ifCond .ne 11, 3, 21), (13, .aload_n 0, 1, 0), (14, .iload_n 2, 1, 0), (15, .invokevirtual 311, 3, 0), (18, .ifCond .eq 17, 3, 35), (21, .aload_n 0, 1, 0), (22, .iconst 1, 1, 0), (23, .invokevirtual 308, 3, 0), (26, .ifCond .le 7, 3, 33), (29, .iconst 1, 1, 0), (30, .goto 4, 3, 34), (33, .iconst 0, 1, 0), (34, .ireturn, 1, 0), (35, .aload_n 0, 1, 0), (36, .getfield 139, 3, 0), (39, .iload_n 1, 1, 0), (40, .aaload, 1, 0), (41, .ifnull 12, 3, 53), (44, .aload_n 0, 1, 0), (45, .getfield 139, 3, 0), (48, .iload_n 2, 1, 0), (49, .aaload, 1, 0), (50, .ifnonnull 17, 3, 67), (53, .aload_n 0, 1, 0), (54, .iconst 2, 1, 0), (55, .invokevirtual 308, 3, 0), (58, .ifCond .le 7, 3, 65), (61, .iconst 1, 1, 0), (62, .goto 4, 3, 66), (65, .iconst 0, 1, 0), (66, .ireturn, 1, 0), (67, .aload_n 0, 1, 0), (68, .getfield 139, 3, 0), (71, .iload_n 1, 1, 0), (72, .aaload, 1, 0), (73, .aload_n 0, 1, 0), (74, .getfield 139, 3, 0), (77, .iload_n 2, 1, 0), (78, .aaload, 1, 0), (79, .invokevirtual 216, 3, 0), (82, .ireturn, 1, 0)]
/-- NotationReaderModel.same(II)Z -/
def xM44 : ab_M := (⟨"NotationReaderModel", "same", "(II)Z"⟩, prog_6_method_36_code, 3, some .boolean, 2, false, [], xlk xP44, xC44)
def xP45 : List (Nat × ab_N) := [(142, (0, 3, 0, .null)), (145, (0, 3, 2, .null)), (285, (0, 3, 14, .null)), (308, (1, 35, 2, .null))]
def xC45 : List (Nat × Instr × Nat × Nat) := [(0, .aload_n 0, 1, 0), (1, .iconst 0, 1, 0), (2, .putfield 142, 3, 0), (5, .iload_n 1, 1, 0), (6, .ifCond .ne 10, 3, 16), (9, .aload_n 0, 1, 0), (10, .getfield 145, 3, 0), (13, .goto 20, 3, 33), (16, .iload_n 1, 1, 0), (17, .iconst 1, 1, 0), (18, .if_icmp .ne 10, 3, 28), (21, .aload_n 0, 1, 0), (22, .getfield 285, 3, 0), (25, .goto 8, 3, 33), (28, .aload_n 0, 1, 0), (29, .iconst 1, 1, 0), (30, .invokevirtual 308, 3, 0), (33, .ireturn, 1, 0)]
/-- NotationReaderModel.count(I)I -/
def xM45 : ab_M := (⟨"NotationReaderModel", "count", "(I)I"⟩, prog_6_method_37_code, 2, some .int, 1, false, [], xlk xP45, xC45)
def xP46 : List (Nat × ab_N) := [(285, (0, 3, 14, .null))]
def xC46 : List (Nat × Instr × Nat × Nat) := [(0, .iload_n 1, 1, 0), (1, .ifCond .lt 11, 3, 12), (4, .iload_n 1, 1, 0), (5, .aload_n 0, 1, 0), (6, .getfield 285, 3, 0), (9, .if_icmp .lt 7, 3, 16), (12, .iconst 1, 1, 0), (13, .goto 4, 3, 17), (16, .iconst 0, 1, 0), (17, .ireturn, 1, 0)]
/-- NotationReaderModel.out(I)Z -/
def xM46 : ab_M := (⟨"NotationReaderModel", "out", "(I)Z"⟩, prog_6_method_30_code, 2, some .boolean, 1, false, [], xlk xP46, xC46)
def xP47 : List (Nat × ab_N) := [(43, (0, 3, 4, .int 1)), (145, (0, 3, 2, .null)), (148, (0, 3, 11, .null)), (170, (1, 48, 2, .null)), (173, (0, 3, 7, .null)), (176, (0, 3, 6, .null)), (205, (0, 3, 10, .null)), (209, (0, 3, 8, .null))]
def xC47 : List (Nat × Instr × Nat × Nat) := [(0, .aload_n 0, 1, 0), (1, .invokevirtual 170, 3, 0), (4, .aload_n 0, 1, 0), (5, .aload_n 0, 1, 0), (6, .getfield 148, 3, 0), (9, .putfield 173, 3, 0), (12, .aload_n 0, 1, 0), (13, .getfield 148, 3, 0), (16, .aload_n 0, 1, 0), (17, .getfield 145, 3, 0), (20, .if_icmp .lt 25, 3, 45), (23, .aload_n 0, 1, 0), (24, .aload_n 0, 1, 0), (25, .getfield 145, 3, 0), (28, .putfield 148, 3, 0), (31, .aload_n 0, 1, 0), (32, .aload_n 0, 1, 0), (33, .getfield 145, 3, 0), (36, .putfield 173, 3, 0), (39, .aload_n 0, 1, 0), (40, .iconst 0, 1, 0), (41, .putfield 176, 3, 0), (44, .return_, 1, 0), (45, .aload_n 0, 1, 0), (46, .aload_n 0, 1, 0), (47, .getfield 148, 3, 0), (50, .invokevirtual 151, 3, 0), (53, .istore_n 1, 1, 0), (54, .aload_n 0, 1, 0), (55, .iload_n 1, 1, 0), (56, .invokevirtual 179, 3, 0), (59, .ifCond .eq 10, 3, 69), (62, .aload_n 0, 1, 0), (63, .invokevirtual 182, 3, 0), (66, .goto 165, 3, 231), (69, .aload_n 0, 1, 0), (70, .iload_n 1, 1, 0), (71, .invokevirtual 185, 3, 0), (74, .ifCond .eq 10, 3, 84), (77, .aload_n 0, 1, 0), (78, .invokevirtual 188, 3, 0), (81, .goto 150, 3, 231), (84, .iload_n 1, 1, 0), (85, .bipush 34, 2, 0), (87, .if_icmp .ne 10, 3, 97), (90, .aload_n 0, 1, 0), (91, .invokevirtual 191, 3, 0), (94, .goto 137, 3, 231), (97, .iload_n 1, 1, 0), (98, .bipush 39, 2, 0), (100, .if_icmp .ne 10, 3, 110), (103, .aload_n 0, 1, 0), (104, .invokevirtual 194, 3, 0), (107, .goto 124, 3, 231), (110, .aload_n 0, 1, 0), (111, .iconst 1, 1, 0), (112, .putfield 176, 3, 0), (115, .iconst 0, 1, 0), (116, .istore_n 2, 1, 0), (117, .iload_n 2, 1, 0), (118, .aload_n 0, 1, 0), (119, .getfield 43, 3, 0), (122, .arraylength, 1, 0), (123, .if_icmp .ge 108, 3, 231), (126, .aload_n 0, 1, 0), (127, .getfield 176, 3, 0), (130, .iconst 1, 1, 0), (131, .if_icmp .ne 100, 3, 231), (134, .iconst 1, 1, 0), (135, .istore_n 3, 1, 0), (136, .iconst 0, 1, 0), (137, .istore 4, 2, 0), (139, .iload 4, 2, 0), (141, .aload_n 0, 1, 0), (142, .getfield 43, 3, 0), (145, .iload_n 2, 1, 0), (146, .aaload, 1, 0), (147, .invokevirtual 197, 3, 0), (150, .if_icmp .ge 36, 3, 186), (153, .aload_n 0, 1, 0), (154, .aload_n 0, 1, 0), (155, .getfield 148, 3, 0), (158, .iload 4, 2, 0), (160, .iadd, 1, 0), (161, .invokevirtual 151, 3, 0), (164, .aload_n 0, 1, 0), (165, .getfield 43, 3, 0), (168, .iload_n 2, 1, 0), (169, .aaload, 1, 0), (170, .iload 4, 2, 0), (172, .invokevirtual 201, 3, 0), (175, .if_icmp .eq 5, 3, 180), (178, .iconst 0, 1, 0), (179, .istore_n 3, 1, 0), (180, .iinc 4 1, 3, 0), (183, .goto (-44), 3, 139), (186, .iload_n 3, 1, 0), (187, .ifCond .ne 6, 3, 193), (190, .goto 35, 3, 225), (193, .aload_n 0, 1, 0), (194, .bipush 9, 2, 0), (196, .putfield 176, 3, 0), (199, .aload_n 0, 1, 0), (200, .aload_n 0, 1, 0), (201, .getfield 43, 3, 0), (204, .iload_n 2, 1, 0), (205, .aaload, 1, 0), (206, .putfield 205, 3, 0), (209, .aload_n 0, 1, 0), (210, .dup, 1, 0), (211, .getfield 148, 3, 0), (214, .aload_n 0, 1, 0), (215, .getfield 205, 3, 0), (218, .invokevirtual 197, 3, 0), (221, .iadd, 1, 0), (222, .putfield 148, 3, 0), (225, .iinc 2 1, 3, 0), (228, .goto (-111), 3, 117), (231, .aload_n 0, 1, 0), (232, .aload_n 0, 1, 0), (233, .getfield 148, 3, 0), (236, .putfield 209, 3, 0), (239, .return_, 1, 0)]
/-- NotationReaderModel.advance()V -/
def xM47 : ab_M := (⟨"NotationReaderModel", "advance", "()V"⟩, prog_6_method_10_code, 5, none, 0, false, [], xlk xP47, xC47)
def xP48 : List (Nat × ab_N) := [(145, (0, 3, 2, .null)), (148, (0, 3, 11, .null))]
def xC48 : List (Nat × Instr × Nat × Nat) := [(0, .aload_n 0, 1, 0), (1, .getfield 148, 3, 0), (4, .aload_n 0, 1, 0), (5, .getfield 145, 3, 0), (8, .if_icmp .ge 176, 3, 184), (11, .aload_n 0, 1, 0), (12, .aload_n 0, 1, 0), (13, .aload_n 0, 1, 0), (14, .getfield 148, 3, 0), (17, .invokevirtual 151, 3, 0), (20, .invokevirtual 155, 3, 0), (23, .ifCond .eq 16, 3, 39), (26, .aload_n 0, 1, 0), (27, .dup, 1, 0), (28, .getfield 148, 3, 0), (31, .iconst 1, 1, 0), (32, .iadd, 1, 0), (33, .putfield 148, 3, 0), (36, .goto (-36), 3, 0), (39, .aload_n 0, 1, 0), (40, .aload_n 0, 1, 0), (41, .getfield 148, 3, 0), (44, .invokevirtual 151, 3, 0), (47, .bipush 45, 2, 0), (49, .if_icmp .ne 134, 3, 183), (52, .aload_n 0, 1, 0), (53, .aload_n 0, 1, 0), (54, .getfield 148, 3, 0), (57, .iconst 1, 1, 0), (58, .iadd, 1, 0), (59, .invokevirtual 151, 3, 0), (62, .bipush 45, 2, 0), (64, .if_icmp .ne 119, 3, 183), (67, .aload_n 0, 1, 0), (68, .dup, 1, 0), (69, .getfield 148, 3, 0), (72, .iconst 2, 1, 0), (73, .iadd, 1, 0), (74, .putfield 148, 3, 0), (77, .aload_n 0, 1, 0), (78, .getfield 148, 3, 0), (81, .aload_n 0, 1, 0), (82, .getfield 145, 3, 0), (85, .if_icmp .ge 57, 3, 142), (88, .aload_n 0, 1, 0), (89, .aload_n 0, 1, 0), (90, .getfield 148, 3, 0), (93, .invokevirtual 151, 3, 0), (96, .bipush 10, 2, 0), (98, .if_icmp .eq 44, 3, 142), (101, .aload_n 0, 1, 0), (102, .aload_n 0, 1, 0), (103, .getfield 148, 3, 0), (106, .invokevirtual 151, 3, 0), (109, .bipush 45, 2, 0), (111, .if_icmp .ne 18, 3, 129), (114, .aload_n 0, 1, 0), (115, .aload_n 0, 1, 0), (116, .getfield 148, 3, 0), (119, .iconst 1, 1, 0), (120, .iadd, 1, 0), (121, .invokevirtual 151, 3, 0), (124, .bipush 45, 2, 0), (126, .if_icmp .eq 16, 3, 142), (129, .aload_n 0, 1, 0), (130, .dup, 1, 0), (131, .getfield 148, 3, 0), (134, .iconst 1, 1, 0), (135, .iadd, 1, 0), (136, .putfield 148, 3, 0), (139, .goto (-62), 3, 77), (142, .aload_n 0, 1, 0), (143, .getfield 148, 3, 0), (146, .aload_n 0, 1, 0), (147, .getfield 145, 3, 0), (150, .if_icmp .ge (-150), 3, 0), (153, .aload_n 0, 1, 0), (154, .dup, 1, 0), (155, .getfield 148, 3, 0), (158, .aload_n 0, 1, 0), (159, .aload_n 0, 1, 0), (160, .getfield 148, 3, 0), (163, .invokevirtual 151, 3, 0), (166, .bipush 10, 2, 0), (168, .if_icmp .ne 7, 3, 175), (171, .iconst 1, 1, 0), (172, .goto 4, 3, 176), (175, .iconst 2, 1, 0), (176, .iadd, 1, 0), (177, .putfield 148, 3, 0), (180, .goto (-180), 3, 0), (183, .return_, 1, 0), (184, .return_, 1, 0)]
/-- NotationReaderModel.skip()V -/
def xM48 : ab_M := (⟨"NotationReaderModel", "skip", "()V"⟩, prog_6_method_8_code, 1, none, 0, false, [], xlk xP48, xC48)
def xP49 : List (Nat × ab_N) := [(25, (7, 0, 0, .float 14)), (27, (7, 0, 0, .float 15)), (39, (7, 0, 0, .float 21)), (41, (7, 0, 0, .float 22)), (97, (7, 0, 0, .float 48)), (99, (7, 0, 0, .float 49)), (101, (7, 0, 0, .float 50)), (173, (0, 3, 7, .null)), (176, (0, 3, 6, .null)), (205, (0, 3, 10, .null)), (231, (1, 50, 2, .null)), (235, (1, 51, 2, .null)), (239, (1, 47, 2, .null)), (259, (1, 49, 2, .null)), (267, (0, 3, 12, .null))]
def xC49 : List (Nat × Instr × Nat × Nat) := [(0, .aload_n 0, 1, 0), (1, .getfield 173, 3, 0), (4, .istore_n 1, 1, 0), (5, .aload_n 0, 1, 0), (6, .ldc 97, 2, 0), (8, .invokevirtual 231, 3, 0), (11, .ifCond .ne 21, 3, 32), (14, .aload_n 0, 1, 0), (15, .ldc 99, 2, 0), (17, .invokevirtual 231, 3, 0), (20, .ifCond .ne 12, 3, 32), (23, .aload_n 0, 1, 0), (24, .ldc 101, 2, 0), (26, .invokevirtual 231, 3, 0), (29, .ifCond .eq 45, 3, 74), (32, .new 120, 3, 0), (35, .dup, 1, 0), (36, .aload_n 0, 1, 0), (37, .ldc 97, 2, 0), (39, .invokevirtual 231, 3, 0), (42, .ifCond .eq 7, 3, 49), (45, .iconst 0, 1, 0), (46, .goto 17, 3, 63), (49, .aload_n 0, 1, 0), (50, .ldc 99, 2, 0), (52, .invokevirtual 231, 3, 0), (55, .ifCond .eq 7, 3, 62), (58, .iconst 1, 1, 0), (59, .goto 4, 3, 63), (62, .iconst 2, 1, 0), (63, .iload_n 1, 1, 0), (64, .invokespecial 242, 3, 0), (67, .astore_n 2, 1, 0), (68, .aload_n 0, 1, 0), (69, .invokevirtual 239, 3, 0), (72, .aload_n 2, 1, 0), (73, .areturn, 1, 0), (74, .aload_n 0, 1, 0), (75, .ldc 41, 2, 0), (77, .invokevirtual 231, 3, 0), (80, .ifCond .ne 11, 3, 91), (83, .aload_n 0, 1, 0), (84, .getfield 176, 3, 0), (87, .iconst 5, 1, 0), (88, .if_icmp .ne 23, 3, 111), (91, .new 120, 3, 0), (94, .dup, 1, 0), (95, .iconst 3, 1, 0), (96, .iload_n 1, 1, 0), (97, .invokespecial 242, 3, 0), (100, .astore_n 2, 1, 0), (101, .aload_n 2, 1, 0), (102, .aload_n 0, 1, 0), (103, .invokevirtual 245, 3, 0), (106, .putfield 249, 3, 0), (109, .aload_n 2, 1, 0), (110, .areturn, 1, 0), (111, .aload_n 0, 1, 0), (112, .getfield 176, 3, 0), (115, .bipush 7, 2, 0), (117, .if_icmp .eq 21, 3, 138), (120, .aload_n 0, 1, 0), (121, .getfield 176, 3, 0), (124, .bipush 8, 2, 0), (126, .if_icmp .eq 12, 3, 138), (129, .aload_n 0, 1, 0), (130, .getfield 176, 3, 0), (133, .bipush 6, 2, 0), (135, .if_icmp .ne 55, 3, 190), (138, .new 120, 3, 0), (141, .dup, 1, 0), (142, .aload_n 0, 1, 0), (143, .getfield 176, 3, 0), (146, .bipush 7, 2, 0), (148, .if_icmp .ne 7, 3, 155), (151, .iconst 5, 1, 0), (152, .goto 19, 3, 171), (155, .aload_n 0, 1, 0), (156, .getfield 176, 3, 0), (159, .bipush 8, 2, 0), (161, .if_icmp .ne 8, 3, 169), (164, .bipush 6, 2, 0), (166, .goto 5, 3, 171), (169, .bipush 7, 2, 0), (171, .iload_n 1, 1, 0), (172, .invokespecial 242, 3, 0), (175, .astore_n 2, 1, 0), (176, .aload_n 2, 1, 0), (177, .aload_n 0, 1, 0), (178, .getfield 205, 3, 0), (181, .putfield 250, 3, 0), (184, .aload_n 0, 1, 0), (185, .invokevirtual 239, 3, 0), (188, .aload_n 2, 1, 0), (189, .areturn, 1, 0), (190, .aload_n 0, 1, 0), (191, .getfield 176, 3, 0), (194, .iconst 4, 1, 0), (195, .if_icmp .ne 76, 3, 271), (198, .aload_n 0, 1, 0), (199, .iconst 4, 1, 0), (200, .invokevirtual 252, 3, 0), (203, .astore_n 2, 1, 0), (204, .aload_n 0, 1, 0), (205, .ldc 39, 2, 0), (207, .invokevirtual 231, 3, 0), (210, .ifCond .ne 20, 3, 230), (213, .new 120, 3, 0), (216, .dup, 1, 0), (217, .iconst 4, 1, 0), (218, .iload_n 1, 1, 0), (219, .invokespecial 242, 3, 0), (222, .astore_n 3, 1, 0), (223, .aload_n 3, 1, 0), (224, .aload_n 2, 1, 0), (225, .putfield 250, 3, 0), (228, .aload_n 3, 1, 0), (229, .areturn, 1, 0), (230, .aload_n 0, 1, 0), (231, .invokevirtual 256, 3, 0), (234, .aload_n 0, 1, 0), (235, .invokevirtual 239, 3, 0), (238, .new 120, 3, 0), (241, .dup, 1, 0), (242, .bipush 8, 2, 0), (244, .iload_n 1, 1, 0), (245, .invokespecial 242, 3, 0), (248, .astore_n 3, 1, 0), (249, .aload_n 3, 1, 0), (250, .aload_n 2, 1, 0), (251, .iload_n 1, 1, 0), (252, .aload_n 0, 1, 0), (253, .invokevirtual 259, 3, 0), (256, .invokevirtual 263, 3, 0), (259, .aload_n 0, 1, 0), (260, .dup, 1, 0), (261, .getfield 267, 3, 0), (264, .iconst 1, 1, 0), (265, .isub, 1, 0), (266, .putfield 267, 3, 0), (269, .aload_n 3, 1, 0), (270, .areturn, 1, 0), (271, .aload_n 0, 1, 0), (272, .aload_n 0, 1, 0), (273, .ldc 25, 2, 0), (275, .invokevirtual 231, 3, 0), (278, .invokevirtual 235, 3, 0), (281, .aload_n 0, 1, 0), (282, .invokevirtual 256, 3, 0), (285, .aload_n 0, 1, 0), (286, .invokevirtual 239, 3, 0), (289, .aload_n 0, 1, 0), (290, .iload_n 1, 1, 0), (291, .invokevirtual 270, 3, 0), (294, .astore_n 2, 1, 0), (295, .aload_n 2, 1, 0), (296, .aload_n 0, 1, 0), (297, .getfield 173, 3, 0), (300, .putfield 274, 3, 0), (303, .aload_n 0, 1, 0), (304, .ldc 27, 2, 0), (306, .invokevirtual 277, 3, 0), (309, .aload_n 0, 1, 0), (310, .dup, 1, 0), (311, .getfield 267, 3, 0), (314, .iconst 1, 1, 0), (315, .isub, 1, 0), (316, .putfield 267, 3, 0), (319, .aload_n 2, 1, 0), (320, .areturn, 1, 0)]
/-- NotationReaderModel.value()LNotationReaderModel$Value; -/
def xM49 : ab_M := (⟨"NotationReaderModel", "value", "()LNotationReaderModel$Value;"⟩, prog_6_method_21_code, 4, some (.object "NotationReaderModel$Value"), 0, false, [], xlk xP49, xC49)
def xP50 : List (Nat × ab_N) := [(176, (0, 3, 6, .null)), (205, (0, 3, 10, .null))]
def xC50 : List (Nat × Instr × Nat × Nat) := [(0, .aload_n 0, 1, 0), (1, .getfield 176, 3, 0), (4, .iconst 2, 1, 0), (5, .if_icmp .eq 12, 3, 17), (8, .aload_n 0, 1, 0), (9, .getfield 176, 3, 0), (12, .bipush 9, 2, 0), (14, .if_icmp .ne 18, 3, 32), (17, .aload_n 0, 1, 0), (18, .getfield 205, 3, 0), (21, .aload_n 1, 1, 0), (22, .invokevirtual 216, 3, 0), (25, .ifCond .eq 7, 3, 32), (28, .iconst 1, 1, 0), (29, .goto 4, 3, 33), (32, .iconst 0, 1, 0), (33, .ireturn, 1, 0)]
/-- NotationReaderModel.is(Ljava/lang/String;)Z -/
def xM50 : ab_M := (⟨"NotationReaderModel", "is", "(Ljava/lang/String;)Z"⟩, prog_6_method_15_code, 2, some .boolean, 1, false, [], xlk xP50, xC50)
def xP51 : List (Nat × ab_N) := [(228, (9, 6, 0, .null)), (230, (14, 6, 0, .null))]
def xC51 : List (Nat × Instr × Nat × Nat) := [(0, .iload_n 1, 1, 0), (1, .ifCond .ne 11, 3, 12), (4, .new 228, 3, 0), (7, .dup, 1, 0), (8, .invokespecial 230, 3, 0), (11, .athrow, 1, 0), (12, .return_, 1, 0)]
/-- NotationReaderModel.can(Z)V -/
def xM51 : ab_M := (⟨"NotationReaderModel", "can", "(Z)V"⟩, prog_6_method_16_code, 2, none, 1, false, [], xlk xP51, xC51)
def xP52 : List (Nat × ab_N) := [(1, (1, 55, 0, .null)), (9, (0, 4, 0, .null)), (39, (4, 0, 0, .float 58))]
def xC52 : List (Nat × Instr × Nat × Nat) := [(0, .aload_n 0, 1, 0), (1, .invokespecial 1, 3, 0), (4, .aload_n 0, 1, 0), (5, .getstatic 39, 3, 0), (8, .putfield 9, 3, 0), (11, .return_, 1, 0)]
/-- java/util/ArrayList.<init>()V -/
def xM52 : ab_M := (⟨"java/util/ArrayList", "<init>", "()V"⟩, prog_27_method_2_code, 1, none, 0, false, [], xlk xP52, xC52)
def xP53 : List (Nat × ab_N) := [(9, (0, 4, 0, .null)), (48, (0, 4, 1, .null)), (63, (0, 4, 2, .null))]
def xC53 : List (Nat × Instr × Nat × Nat) := [(0, .aload_n 0, 1, 0), (1, .dup, 1, 0), (2, .getfield 63, 3, 0), (5, .iconst 1, 1, 0), (6, .iadd, 1, 0), (7, .putfield 63, 3, 0), (10, .aload_n 0, 1, 0), (11, .getfield 9, 3, 0), (14, .astore_n 1, 1, 0), (15, .aload_n 0, 1, 0), (16, .getfield 48, 3, 0), (19, .istore_n 2, 1, 0), (20, .aload_n 0, 1, 0), (21, .iconst 0, 1, 0), (22, .dup_x1, 1, 0), (23, .putfield 48, 3, 0), (26, .istore_n 3, 1, 0), (27, .iload_n 3, 1, 0), (28, .iload_n 2, 1, 0), (29, .if_icmp .ge 13, 3, 42), (32, .aload_n 1, 1, 0), (33, .iload_n 3, 1, 0), (34, .aconst_null, 1, 0), (35, .aastore, 1, 0), (36, .iinc 3 1, 3, 0), (39, .goto (-12), 3, 27), (42, .return_, 1, 0)]
/-- java/util/ArrayList.clear()V -/
def xM53 : ab_M := (⟨"java/util/ArrayList", "clear", "()V"⟩, prog_27_method_40_code, 4, none, 0, false, [], xlk xP53, xC53)
def xP54 : List (Nat × ab_N) := [(48, (0, 4, 1, .null))]
def xC54 : List (Nat × Instr × Nat × Nat) := [(0, .aload_n 0, 1, 0), (1, .getfield 48, 3, 0), (4, .ireturn, 1, 0)]
/-- java/util/ArrayList.size()I -/
def xM54 : ab_M := (⟨"java/util/ArrayList", "size", "()I"⟩, prog_27_method_8_code, 1, some .int, 0, false, [], xlk xP54, xC54)
def xP55 : List (Nat × ab_N) := [(1, (1, 56, 0, .null)), (7, (0, 4, 2, .null))]
def xC55 : List (Nat × Instr × Nat × Nat) := [(0, .aload_n 0, 1, 0), (1, .invokespecial 1, 3, 0), (4, .aload_n 0, 1, 0), (5, .iconst 0, 1, 0), (6, .putfield 7, 3, 0), (9, .return_, 1, 0)]
/-- java/util/AbstractList.<init>()V -/
def xM55 : ab_M := (⟨"java/util/AbstractList", "<init>", "()V"⟩, prog_26_method_1_code, 1, none, 0, false, [], xlk xP55, xC55)
def xP56 : List (Nat × ab_N) := [(1, (5, 0, 0, .null))]
def xC56 : List (Nat × Instr × Nat × Nat) := [(0, .aload_n 0, 1, 0), (1, .invokespecial 1, 3, 0), (4, .return_, 1, 0)]
/-- java/util/AbstractCollection.<init>()V -/
def xM56 : ab_M := (⟨"java/util/AbstractCollection", "<init>", "()V"⟩, prog_25_method_1_code, 1, none, 0, false, [], xlk xP56, xC56)
def x_mt : List ab_M := [xM0, xM1, xM2, xM3, xM4, xM5, xM6, xM7, xM8, xM9, xM10, xM11, xM12, xM13, xM14, xM15, xM16, xM17, xM18, xM19, xM20, xM21, xM22, xM23, xM24, xM25, xM26, xM27, xM28, xM29, xM30, xM31, xM32, xM33, xM34, xM35, xM36, xM37, xM38, xM39, xM40, xM41, xM42, xM43, xM44, xM45, xM46, xM47, xM48, xM49, xM50, xM51, xM52, xM53, xM54, xM55, xM56]
/- floats: 0 script; 1 string NotationReader 32 the tape would have more than 4096 bytes; 2 string NotationReader 43 the tape has no such length to keep; 3 string NotationReader 80 what is 0 .. 3; 4 string NotationReader 84 the node has no such part; 5 string NotationReader 96 the node is no number; 6 string NotationReader 102 the node has no such digit or byte; 7 string NotationReader 115 a node is no identifier; 8 string NotationReader 120 what is 0 or 1; 9 string NotationReader 122 there is no such node; 10 string NotationReader 178 the tape is no value; 11 string NotationReaderModel 19 ::=; 12 string NotationReaderModel 21 ...; 13 string NotationReaderModel 23 ..; 14 string NotationReaderModel 25 {; 15 string NotationReaderModel 27 }; 16 string NotationReaderModel 29 (; 17 string NotationReaderModel 31 ); 18 string NotationReaderModel 33 [; 19 string NotationReaderModel 35 ]; 20 string NotationReaderModel 37 ,; 21 string NotationReaderModel 39 :; 22 string NotationReaderModel 41 -; 23 string NotationReaderModel 47 DEFINITIONS; 24 string NotationReaderModel 49 EXPLICIT; 25 string NotationReaderModel 51 IMPLICIT; 26 string NotationReaderModel 53 AUTOMATIC; 27 string NotationReaderModel 55 TAGS; 28 string NotationReaderModel 57 BEGIN; 29 string NotationReaderModel 59 END; 30 string NotationReaderModel 61 UNIVERSAL; 31 string NotationReaderModel 63 APPLICATION; 32 string NotationReaderModel 65 PRIVATE; 33 string NotationReaderModel 67 INTEGER; 34 string NotationReaderModel 69 ENUMERATED; 35 string NotationReaderModel 71 BIT; 36 string NotationReaderModel 73 STRING; 37 string NotationReaderModel 75 OCTET; 38 string NotationReaderModel 77 OBJECT; 39 string NotationReaderModel 79 IDENTIFIER; 40 string NotationReaderModel 81 SEQUENCE; 41 string NotationReaderModel 83 SET; 42 string NotationReaderModel 85 OF; 43 string NotationReaderModel 87 CHOICE; 44 string NotationReaderModel 89 SIZE; 45 string NotationReaderModel 91 OPTIONAL; 46 string NotationReaderModel 93 DEFAULT; 47 string NotationReaderModel 95 BOOLEAN; 48 string NotationReaderModel 97 TRUE; 49 string NotationReaderModel 99 FALSE; 50 string NotationReaderModel 101 NULL; 51 string NotationReaderModel 103 MIN; 52 string NotationReaderModel 105 MAX; 53 string NotationReaderModel 107 UTF8String; 54 string NotationReaderModel 109 PrintableString; 55 string NotationReaderModel 111 IA5String; 56 string NotationReaderModel 113 NumericString; 57 string NotationReaderModel 115 VisibleString; 58 static java/util/ArrayList DEFAULTCAPACITY_EMPTY_ELEMENTDATA [Ljava/lang/Object; -/
def x_trms : List Term := [.arg 0, .string "NotationReader" 32, .string "NotationReader" 43, .string "NotationReader" 80, .string "NotationReader" 84, .string "NotationReader" 96, .string "NotationReader" 102, .string "NotationReader" 115, .string "NotationReader" 120, .string "NotationReader" 122, .string "NotationReader" 178, .string "NotationReaderModel" 19, .string "NotationReaderModel" 21, .string "NotationReaderModel" 23, .string "NotationReaderModel" 25, .string "NotationReaderModel" 27, .string "NotationReaderModel" 29, .string "NotationReaderModel" 31, .string "NotationReaderModel" 33, .string "NotationReaderModel" 35, .string "NotationReaderModel" 37, .string "NotationReaderModel" 39, .string "NotationReaderModel" 41, .string "NotationReaderModel" 47, .string "NotationReaderModel" 49, .string "NotationReaderModel" 51, .string "NotationReaderModel" 53, .string "NotationReaderModel" 55, .string "NotationReaderModel" 57, .string "NotationReaderModel" 59, .string "NotationReaderModel" 61, .string "NotationReaderModel" 63, .string "NotationReaderModel" 65, .string "NotationReaderModel" 67, .string "NotationReaderModel" 69, .string "NotationReaderModel" 71, .string "NotationReaderModel" 73, .string "NotationReaderModel" 75, .string "NotationReaderModel" 77, .string "NotationReaderModel" 79, .string "NotationReaderModel" 81, .string "NotationReaderModel" 83, .string "NotationReaderModel" 85, .string "NotationReaderModel" 87, .string "NotationReaderModel" 89, .string "NotationReaderModel" 91, .string "NotationReaderModel" 93, .string "NotationReaderModel" 95, .string "NotationReaderModel" 97, .string "NotationReaderModel" 99, .string "NotationReaderModel" 101, .string "NotationReaderModel" 103, .string "NotationReaderModel" 105, .string "NotationReaderModel" 107, .string "NotationReaderModel" 109, .string "NotationReaderModel" 111, .string "NotationReaderModel" 113, .string "NotationReaderModel" 115, .static "java/util/ArrayList" "DEFAULTCAPACITY_EMPTY_ELEMENTDATA" "[Ljava/lang/Object;"]
def x_nm (w : Nat) : String := if w = 58 then "[Ljava/lang/Object;" else "java/lang/String"
def x_oo : Nat → Option (Nat × List Value) := fun w => if 1 ≤ w ∧ w < 59 ∧ w ≠ 58 then some (9, []) else none
end
section
/-! what the words give of the tables; made by wip/whole/gen/tables.py -/
def x_g (w : Jvm.Cond) : Bool := w.onTables && w.keepsFace
def x_Ts : List Jvm.Cond := lw_tbl.filter x_g
theorem tl {w : Jvm.Cond} (h : w ∈ lw_tbl) (hg : x_g w = true) : w ∈ x_Ts := List.mem_filter.mpr ⟨h, hg⟩
theorem tm {w : Jvm.Cond} (i : Nat) (h : (tables_1[i]? = some w ∧ x_g w = true)) : w ∈ x_Ts := tl (List.mem_append.mpr (Or.inr (List.mem_of_getElem? h.1))) h.2
theorem ts {w : Jvm.Cond} (h : (w ∈ k2_sels lw_privs ∧ x_g w = true)) : w ∈ x_Ts := tl (List.mem_append.mpr (Or.inl h.1)) h.2
def xNames : List String := ["java/lang/RuntimeException", "java/lang/Exception"]
def x_isZ (w : Jvm.Cond) : Bool := decide (w = .laysStatic Bundle.tN "UNASSIGNED_STACK" Bundle.steD) || decide (w = .laysStatic Bundle.tN "SUPPRESSED_SENTINEL" Bundle.listD) || decide (w = .isRef (.static Bundle.tN "UNASSIGNED_STACK" Bundle.steD)) || decide (w = .isRef (.static Bundle.tN "SUPPRESSED_SENTINEL" Bundle.listD))
theorem tmz {L : List Jvm.Cond} (h : L.all (fun w => x_isZ w || (lw_tbl.contains w && x_g w)) = true) : ∀ w ∈ L, ab_isZ w ∨ w ∈ x_Ts := by
  intro w hw
  have z := List.all_eq_true.mp h w hw
  simp only [Bool.or_eq_true, Bool.and_eq_true] at z
  rcases z with z | z
  · left
    simp only [x_isZ, Bool.or_eq_true, decide_eq_true_eq] at z
    unfold ab_isZ
    rcases z with ((z | z) | z) | z
    · exact Or.inl z
    · exact Or.inr (Or.inl z)
    · exact Or.inr (Or.inr (Or.inl z))
    · exact Or.inr (Or.inr (Or.inr z))
  · right
    exact tl (by simpa using z.1) z.2
theorem tr {w : Jvm.Cond} (i : Nat) (h : tables_1[i]? = some w) : w ∈ lw_tbl := List.mem_append.mpr (Or.inr (List.mem_of_getElem? h))
def x_p7 (own : String) (x : Nat) (n : ab_N) : Prop := match n with
  | (7, _, _, .float w) => x_trms[w.toNat]? = some (.string own x) ∧ w.toNat ≠ 0 ∧ ∃ tx : String, Cond.stringRef own x tx ∈ lw_tbl
  | (4, _, _, v) => v = .float 58 ∧ Cond.fieldLink own x "java/util/ArrayList" "DEFAULTCAPACITY_EMPTY_ELEMENTDATA" "[Ljava/lang/Object;" ∈ x_Ts
  | _ => True
def x_all (own : String) (x : Nat) (n : ab_N) : Prop := ab_pe x_cl x_Ts own x n ∧ ab_pm x_Ts x_mt own x n ∧ ab_p11 x_cl x_Ts own x n ∧ ab_p4 x_cl x_aty x_Ts own x n ∧ ab_p9 x_cl x_Ts own x n ∧ x_p7 own x n
theorem xe0 : x_all "NotationReaderLaw" 8 (2, 0, 0, .null) := ⟨⟨_, rfl, tm 29 (by decide +kernel), tm 30 (by decide +kernel), tm 1 (by decide +kernel)⟩, trivial, trivial, trivial, trivial, trivial⟩
theorem xe1 : x_all "NotationReaderLaw" 50 (1, 10, 0, .null) := ⟨trivial, ⟨_, rfl, Or.inl ⟨rfl, tm 31 (by decide +kernel)⟩⟩, trivial, trivial, trivial, trivial⟩
theorem xe2 : x_all "NotationReaderLaw" 51 (2, 3, 0, .null) := ⟨⟨_, rfl, tm 629 (by decide +kernel), tm 630 (by decide +kernel), tm 7 (by decide +kernel)⟩, trivial, trivial, trivial, trivial, trivial⟩
theorem xe3 : x_all "NotationReaderLaw" 53 (1, 33, 0, .null) := ⟨trivial, ⟨_, rfl, Or.inl ⟨rfl, tm 631 (by decide +kernel)⟩⟩, trivial, trivial, trivial, trivial⟩
theorem xe4 : x_all "NotationReaderLaw" 54 (1, 1, 0, .null) := ⟨trivial, ⟨_, rfl, Or.inl ⟨rfl, tm 139 (by decide +kernel)⟩⟩, trivial, trivial, trivial, trivial⟩
theorem xe5 : x_all "NotationReaderLaw" 59 (1, 36, 2, .null) := ⟨trivial, ⟨_, rfl, Or.inr (Or.inr (Or.inl ⟨rfl, tm 754 (by decide +kernel), tm 756 (by decide +kernel)⟩))⟩, trivial, trivial, trivial, trivial⟩
theorem xe6 : x_all "NotationReaderLaw" 60 (1, 34, 2, .null) := ⟨trivial, ⟨_, rfl, Or.inr (Or.inr (Or.inl ⟨rfl, tm 750 (by decide +kernel), tm 752 (by decide +kernel)⟩))⟩, trivial, trivial, trivial, trivial⟩
theorem xe7 : x_all "NotationReaderLaw" 63 (1, 2, 0, .null) := ⟨trivial, ⟨_, rfl, Or.inl ⟨rfl, tm 219 (by decide +kernel)⟩⟩, trivial, trivial, trivial, trivial⟩
theorem xe8 : x_all "NotationReaderLaw" 66 (1, 37, 2, .null) := ⟨trivial, ⟨_, rfl, Or.inr (Or.inr (Or.inl ⟨rfl, tm 762 (by decide +kernel), tm 764 (by decide +kernel)⟩))⟩, trivial, trivial, trivial, trivial⟩
theorem xe9 : x_all "NotationReaderLaw" 67 (1, 3, 0, .null) := ⟨trivial, ⟨_, rfl, Or.inl ⟨rfl, tm 243 (by decide +kernel)⟩⟩, trivial, trivial, trivial, trivial⟩
theorem xe10 : x_all "NotationReaderLaw" 70 (1, 38, 2, .null) := ⟨trivial, ⟨_, rfl, Or.inr (Or.inr (Or.inl ⟨rfl, tm 766 (by decide +kernel), tm 768 (by decide +kernel)⟩))⟩, trivial, trivial, trivial, trivial⟩
theorem xe11 : x_all "NotationReaderLaw" 71 (1, 14, 2, .null) := ⟨trivial, ⟨_, rfl, Or.inr (Or.inr (Or.inl ⟨rfl, tm 135 (by decide +kernel), tm 137 (by decide +kernel)⟩))⟩, trivial, trivial, trivial, trivial⟩
theorem xe12 : x_all "NotationReaderLaw" 74 (1, 39, 2, .null) := ⟨trivial, ⟨_, rfl, Or.inr (Or.inr (Or.inl ⟨rfl, tm 1143 (by decide +kernel), tm 1145 (by decide +kernel)⟩))⟩, trivial, trivial, trivial, trivial⟩
theorem xe13 : x_all "NotationReaderLaw" 75 (1, 4, 0, .null) := ⟨trivial, ⟨_, rfl, Or.inl ⟨rfl, tm 539 (by decide +kernel)⟩⟩, trivial, trivial, trivial, trivial⟩
theorem xe14 : x_all "NotationReaderLaw" 78 (1, 40, 2, .null) := ⟨trivial, ⟨_, rfl, Or.inr (Or.inr (Or.inl ⟨rfl, tm 1147 (by decide +kernel), tm 1149 (by decide +kernel)⟩))⟩, trivial, trivial, trivial, trivial⟩
theorem xe15 : x_all "NotationReaderLaw" 79 (1, 5, 0, .null) := ⟨trivial, ⟨_, rfl, Or.inl ⟨rfl, tm 568 (by decide +kernel)⟩⟩, trivial, trivial, trivial, trivial⟩
theorem xe16 : x_all "NotationReaderLaw" 81 (1, 41, 2, .null) := ⟨trivial, ⟨_, rfl, Or.inr (Or.inr (Or.inl ⟨rfl, tm 1159 (by decide +kernel), tm 1161 (by decide +kernel)⟩))⟩, trivial, trivial, trivial, trivial⟩
theorem xe17 : x_all "NotationReaderLaw" 82 (1, 6, 0, .null) := ⟨trivial, ⟨_, rfl, Or.inl ⟨rfl, tm 592 (by decide +kernel)⟩⟩, trivial, trivial, trivial, trivial⟩
theorem xe18 : x_all "NotationReaderLaw" 84 (1, 42, 2, .null) := ⟨trivial, ⟨_, rfl, Or.inr (Or.inr (Or.inl ⟨rfl, tm 1163 (by decide +kernel), tm 1165 (by decide +kernel)⟩))⟩, trivial, trivial, trivial, trivial⟩
theorem xe19 : x_all "NotationReaderLaw" 85 (1, 7, 0, .null) := ⟨trivial, ⟨_, rfl, Or.inl ⟨rfl, tm 600 (by decide +kernel)⟩⟩, trivial, trivial, trivial, trivial⟩
theorem xe20 : x_all "NotationReaderLaw" 87 (1, 43, 2, .null) := ⟨trivial, ⟨_, rfl, Or.inr (Or.inr (Or.inl ⟨rfl, tm 1167 (by decide +kernel), tm 1169 (by decide +kernel)⟩))⟩, trivial, trivial, trivial, trivial⟩
theorem xe21 : x_all "NotationReaderLaw" 88 (1, 8, 0, .null) := ⟨trivial, ⟨_, rfl, Or.inl ⟨rfl, tm 609 (by decide +kernel)⟩⟩, trivial, trivial, trivial, trivial⟩
theorem xe22 : x_all "NotationReaderLaw" 90 (1, 44, 2, .null) := ⟨trivial, ⟨_, rfl, Or.inr (Or.inr (Or.inl ⟨rfl, tm 1171 (by decide +kernel), tm 1173 (by decide +kernel)⟩))⟩, trivial, trivial, trivial, trivial⟩
theorem xe23 : x_all "NotationReaderLaw" 91 (1, 9, 0, .null) := ⟨trivial, ⟨_, rfl, Or.inl ⟨rfl, tm 621 (by decide +kernel)⟩⟩, trivial, trivial, trivial, trivial⟩
theorem xe24 : x_all "NotationReaderLaw" 93 (1, 45, 2, .null) := ⟨trivial, ⟨_, rfl, Or.inr (Or.inr (Or.inl ⟨rfl, tm 1175 (by decide +kernel), tm 1177 (by decide +kernel)⟩))⟩, trivial, trivial, trivial, trivial⟩
theorem xe25 : x_all "NotationReaderLaw" 7 (1, 11, 2, .null) := ⟨trivial, ⟨_, rfl, Or.inr (Or.inr (Or.inl ⟨rfl, tm 143 (by decide +kernel), tm 145 (by decide +kernel)⟩))⟩, trivial, trivial, trivial, trivial⟩
theorem xe26 : x_all "NotationReaderLaw" 13 (11, 5, 0, .null) := ⟨trivial, trivial, ⟨by decide, _, rfl, tm 142 (by decide +kernel)⟩, trivial, trivial, trivial⟩
theorem xe27 : x_all "NotationReaderLaw" 15 (1, 12, 2, .null) := ⟨trivial, ⟨_, rfl, Or.inr (Or.inr (Or.inl ⟨rfl, tm 223 (by decide +kernel), tm 225 (by decide +kernel)⟩))⟩, trivial, trivial, trivial, trivial⟩
theorem xe28 : x_all "NotationReaderLaw" 19 (11, 6, 0, .null) := ⟨trivial, trivial, ⟨by decide, _, rfl, tm 222 (by decide +kernel)⟩, trivial, trivial, trivial⟩
theorem xe29 : x_all "NotationReaderLaw" 21 (1, 13, 2, .null) := ⟨trivial, ⟨_, rfl, Or.inr (Or.inr (Or.inl ⟨rfl, tm 247 (by decide +kernel), tm 249 (by decide +kernel)⟩))⟩, trivial, trivial, trivial, trivial⟩
theorem xe30 : x_all "NotationReaderLaw" 25 (11, 7, 0, .null) := ⟨trivial, trivial, ⟨by decide, _, rfl, tm 246 (by decide +kernel)⟩, trivial, trivial, trivial⟩
theorem xe31 : x_all "NotationReaderLaw" 27 (1, 15, 2, .null) := ⟨trivial, ⟨_, rfl, Or.inr (Or.inr (Or.inl ⟨rfl, tm 542 (by decide +kernel), tm 544 (by decide +kernel)⟩))⟩, trivial, trivial, trivial, trivial⟩
theorem xe32 : x_all "NotationReaderLaw" 31 (1, 16, 2, .null) := ⟨trivial, ⟨_, rfl, Or.inr (Or.inr (Or.inl ⟨rfl, tm 572 (by decide +kernel), tm 574 (by decide +kernel)⟩))⟩, trivial, trivial, trivial, trivial⟩
theorem xe33 : x_all "NotationReaderLaw" 34 (11, 8, 0, .null) := ⟨trivial, trivial, ⟨by decide, _, rfl, tm 571 (by decide +kernel)⟩, trivial, trivial, trivial⟩
theorem xe34 : x_all "NotationReaderLaw" 36 (1, 17, 2, .null) := ⟨trivial, ⟨_, rfl, Or.inr (Or.inr (Or.inl ⟨rfl, tm 595 (by decide +kernel), tm 597 (by decide +kernel)⟩))⟩, trivial, trivial, trivial, trivial⟩
theorem xe35 : x_all "NotationReaderLaw" 40 (1, 18, 2, .null) := ⟨trivial, ⟨_, rfl, Or.inr (Or.inr (Or.inl ⟨rfl, tm 603 (by decide +kernel), tm 605 (by decide +kernel)⟩))⟩, trivial, trivial, trivial, trivial⟩
theorem xe36 : x_all "NotationReaderLaw" 43 (1, 19, 2, .null) := ⟨trivial, ⟨_, rfl, Or.inr (Or.inr (Or.inl ⟨rfl, tm 612 (by decide +kernel), tm 614 (by decide +kernel)⟩))⟩, trivial, trivial, trivial, trivial⟩
theorem xe37 : x_all "NotationReaderLaw" 47 (1, 20, 2, .null) := ⟨trivial, ⟨_, rfl, Or.inr (Or.inr (Or.inl ⟨rfl, tm 624 (by decide +kernel), tm 626 (by decide +kernel)⟩))⟩, trivial, trivial, trivial, trivial⟩
theorem xe38 : x_all "NotationReader" 1 (5, 0, 0, .null) := ⟨trivial, ⟨tm 34 (by decide +kernel), tm 35 (by decide +kernel), tm 36 (by decide +kernel)⟩, trivial, trivial, trivial, trivial⟩
theorem xe39 : x_all "NotationReader" 7 (2, 1, 0, .null) := ⟨⟨_, rfl, tm 37 (by decide +kernel), tm 38 (by decide +kernel), tm 2 (by decide +kernel)⟩, trivial, trivial, trivial, trivial, trivial⟩
theorem xe40 : x_all "NotationReader" 9 (1, 25, 0, .null) := ⟨trivial, ⟨_, rfl, Or.inl ⟨rfl, tm 39 (by decide +kernel)⟩⟩, trivial, trivial, trivial, trivial⟩
theorem xe41 : x_all "NotationReader" 10 (0, 0, 0, .int 1) := ⟨⟨_, "NotationReader", rfl, by decide, tm 125 (by decide +kernel), Or.inl rfl, fun _ => ⟨rfl, rfl⟩⟩, trivial, trivial, trivial, trivial, trivial⟩
theorem xe42 : x_all "NotationReader" 16 (2, 4, 0, .null) := ⟨⟨_, rfl, tm 99 (by decide +kernel), tm 100 (by decide +kernel), tm 6 (by decide +kernel)⟩, trivial, trivial, trivial, trivial, trivial⟩
theorem xe43 : x_all "NotationReader" 18 (1, 52, 0, .null) := ⟨trivial, ⟨_, rfl, Or.inl ⟨rfl, tm 101 (by decide +kernel)⟩⟩, trivial, trivial, trivial, trivial⟩
theorem xe44 : x_all "NotationReader" 19 (0, 0, 1, .int 1) := ⟨⟨_, "NotationReader", rfl, by decide, tm 126 (by decide +kernel), Or.inl rfl, fun _ => ⟨rfl, rfl⟩⟩, trivial, trivial, trivial, trivial, trivial⟩
theorem xe45 : x_all "NotationReader" 23 (0, 0, 2, .null) := ⟨⟨_, "NotationReader", rfl, by decide, tm 127 (by decide +kernel), Or.inl rfl, fun h => by cases h⟩, trivial, trivial, trivial, trivial, trivial⟩
theorem xe46 : x_all "NotationReader" 27 (0, 1, 3, .null) := ⟨⟨_, "NotationReader$Tape", rfl, by decide, tm 80 (by decide +kernel), Or.inl rfl, fun h => by cases h⟩, trivial, trivial, trivial, trivial, trivial⟩
theorem xe47 : x_all "NotationReader" 30 (9, 5, 0, .null) := ⟨trivial, trivial, trivial, trivial, ⟨_, rfl, tm 147 (by decide +kernel), tm 148 (by decide +kernel), tm 11 (by decide +kernel)⟩, trivial⟩
theorem xe48 : x_all "NotationReader" 32 (7, 0, 0, .float 1) := ⟨trivial, trivial, trivial, trivial, trivial, ⟨rfl, by decide, "the tape would have more than 4096 bytes", tr 189 (by decide +kernel)⟩⟩
theorem xe49 : x_all "NotationReader" 34 (10, 5, 0, .null) := ⟨trivial, trivial, trivial, trivial, ⟨_, xNames, rfl, rfl, by decide +kernel, by decide, by decide +kernel, tmz (by decide +kernel)⟩, trivial⟩
theorem xe50 : x_all "NotationReader" 37 (1, 26, 2, .null) := ⟨trivial, ⟨_, rfl, Or.inr (Or.inr (Or.inl ⟨rfl, tm 215 (by decide +kernel), tm 217 (by decide +kernel)⟩))⟩, trivial, trivial, trivial, trivial⟩
theorem xe51 : x_all "NotationReader" 41 (9, 6, 0, .null) := ⟨trivial, trivial, trivial, trivial, ⟨_, rfl, tm 227 (by decide +kernel), tm 228 (by decide +kernel), tm 12 (by decide +kernel)⟩, trivial⟩
theorem xe52 : x_all "NotationReader" 43 (7, 0, 0, .float 2) := ⟨trivial, trivial, trivial, trivial, trivial, ⟨rfl, by decide, "the tape has no such length to keep", tr 236 (by decide +kernel)⟩⟩
theorem xe53 : x_all "NotationReader" 45 (10, 6, 0, .null) := ⟨trivial, trivial, trivial, trivial, ⟨_, xNames, rfl, rfl, by decide +kernel, by decide, by decide +kernel, tmz (by decide +kernel)⟩, trivial⟩
theorem xe54 : x_all "NotationReader" 46 (1, 53, 2, .null) := ⟨trivial, ⟨_, rfl, Or.inr (Or.inr (Or.inl ⟨rfl, tm 251 (by decide +kernel), tm 253 (by decide +kernel)⟩))⟩, trivial, trivial, trivial, trivial⟩
theorem xe55 : x_all "NotationReader" 49 (1, 27, 2, .null) := ⟨trivial, ⟨_, rfl, Or.inr (Or.inr (Or.inl ⟨rfl, tm 255 (by decide +kernel), tm 257 (by decide +kernel)⟩))⟩, trivial, trivial, trivial, trivial⟩
theorem xe56 : x_all "NotationReader" 52 (1, 22, 2, .null) := ⟨trivial, ⟨_, rfl, Or.inr (Or.inr (Or.inl ⟨rfl, tm 378 (by decide +kernel), ts (by decide +kernel)⟩))⟩, trivial, trivial, trivial, trivial⟩
theorem xe57 : x_all "NotationReader" 58 (1, 54, 2, .null) := ⟨trivial, ⟨_, rfl, Or.inr (Or.inr (Or.inl ⟨rfl, tm 507 (by decide +kernel), tm 509 (by decide +kernel)⟩))⟩, trivial, trivial, trivial, trivial⟩
theorem xe58 : x_all "NotationReader" 62 (1, 21, 2, .null) := ⟨trivial, ⟨_, rfl, Or.inr (Or.inr (Or.inl ⟨rfl, tm 546 (by decide +kernel), ts (by decide +kernel)⟩))⟩, trivial, trivial, trivial, trivial⟩
theorem xe59 : x_all "NotationReader" 80 (7, 0, 0, .float 3) := ⟨trivial, trivial, trivial, trivial, trivial, ⟨rfl, by decide, "what is 0 .. 3", tr 567 (by decide +kernel)⟩⟩
theorem xe60 : x_all "NotationReader" 82 (9, 8, 0, .null) := ⟨trivial, trivial, trivial, trivial, ⟨_, rfl, tm 576 (by decide +kernel), tm 577 (by decide +kernel), tm 28 (by decide +kernel)⟩, trivial⟩
theorem xe61 : x_all "NotationReader" 84 (7, 0, 0, .float 4) := ⟨trivial, trivial, trivial, trivial, trivial, ⟨rfl, by decide, "the node has no such part", tr 585 (by decide +kernel)⟩⟩
theorem xe62 : x_all "NotationReader" 94 (9, 7, 0, .null) := ⟨trivial, trivial, trivial, trivial, ⟨_, rfl, tm 390 (by decide +kernel), tm 391 (by decide +kernel), tm 17 (by decide +kernel)⟩, trivial⟩
theorem xe63 : x_all "NotationReader" 96 (7, 0, 0, .float 5) := ⟨trivial, trivial, trivial, trivial, trivial, ⟨rfl, by decide, "the node is no number", tr 599 (by decide +kernel)⟩⟩
theorem xe64 : x_all "NotationReader" 98 (10, 7, 0, .null) := ⟨trivial, trivial, trivial, trivial, ⟨_, xNames, rfl, rfl, by decide +kernel, by decide, by decide +kernel, tmz (by decide +kernel)⟩, trivial⟩
theorem xe65 : x_all "NotationReader" 102 (7, 0, 0, .float 6) := ⟨trivial, trivial, trivial, trivial, trivial, ⟨rfl, by decide, "the node has no such digit or byte", tr 607 (by decide +kernel)⟩⟩
theorem xe66 : x_all "NotationReader" 115 (7, 0, 0, .float 7) := ⟨trivial, trivial, trivial, trivial, trivial, ⟨rfl, by decide, "a node is no identifier", tr 620 (by decide +kernel)⟩⟩
theorem xe67 : x_all "NotationReader" 120 (7, 0, 0, .float 8) := ⟨trivial, trivial, trivial, trivial, trivial, ⟨rfl, by decide, "what is 0 or 1", tr 628 (by decide +kernel)⟩⟩
theorem xe68 : x_all "NotationReader" 122 (7, 0, 0, .float 9) := ⟨trivial, trivial, trivial, trivial, trivial, ⟨rfl, by decide, "there is no such node", tr 550 (by decide +kernel)⟩⟩
theorem xe69 : x_all "NotationReader" 124 (0, 1, 4, .null) := ⟨⟨_, "NotationReader$Tape", rfl, by decide, tm 83 (by decide +kernel), Or.inl rfl, fun h => by cases h⟩, trivial, trivial, trivial, trivial, trivial⟩
theorem xe70 : x_all "NotationReader" 128 (0, 2, 0, .null) := ⟨⟨_, "NotationReader$Token", rfl, by decide, tm 50 (by decide +kernel), Or.inl rfl, fun h => by cases h⟩, trivial, trivial, trivial, trivial, trivial⟩
theorem xe71 : x_all "NotationReader" 134 (0, 1, 5, .null) := ⟨⟨_, "NotationReader$Tape", rfl, by decide, tm 85 (by decide +kernel), Or.inl rfl, fun h => by cases h⟩, trivial, trivial, trivial, trivial, trivial⟩
theorem xe72 : x_all "NotationReader" 143 (1, 23, 0, .null) := ⟨trivial, ⟨_, rfl, Or.inl ⟨rfl, tm 516 (by decide +kernel)⟩⟩, trivial, trivial, trivial, trivial⟩
theorem xe73 : x_all "NotationReader" 150 (1, 28, 2, .null) := ⟨trivial, ⟨_, rfl, Or.inr (Or.inr (Or.inl ⟨rfl, tm 511 (by decide +kernel), tm 261 (by decide +kernel)⟩))⟩, trivial, trivial, trivial, trivial⟩
theorem xe74 : x_all "NotationReader" 153 (1, 24, 2, .null) := ⟨trivial, ⟨_, rfl, Or.inr (Or.inr (Or.inl ⟨rfl, tm 386 (by decide +kernel), ts (by decide +kernel)⟩))⟩, trivial, trivial, trivial, trivial⟩
theorem xe75 : x_all "NotationReader" 177 (0, 2, 1, .null) := ⟨⟨_, "NotationReader$Token", rfl, by decide, tm 53 (by decide +kernel), Or.inl rfl, fun h => by cases h⟩, trivial, trivial, trivial, trivial, trivial⟩
theorem xe76 : x_all "NotationReader" 178 (7, 0, 0, .float 10) := ⟨trivial, trivial, trivial, trivial, trivial, ⟨rfl, by decide, "the tape is no value", tr 399 (by decide +kernel)⟩⟩
theorem xe77 : x_all "NotationReader$Tape" 3 (5, 0, 0, .null) := ⟨trivial, ⟨tm 42 (by decide +kernel), tm 35 (by decide +kernel), tm 36 (by decide +kernel)⟩, trivial, trivial, trivial, trivial⟩
theorem xe78 : x_all "NotationReader$Tape" 9 (0, 1, 0, .int 1) := ⟨⟨_, "NotationReader$Tape", rfl, by decide, tm 77 (by decide +kernel), Or.inl rfl, fun _ => ⟨rfl, rfl⟩⟩, trivial, trivial, trivial, trivial, trivial⟩
theorem xe79 : x_all "NotationReader$Tape" 15 (0, 1, 1, .int 1) := ⟨⟨_, "NotationReader$Tape", rfl, by decide, tm 78 (by decide +kernel), Or.inl rfl, fun _ => ⟨rfl, rfl⟩⟩, trivial, trivial, trivial, trivial, trivial⟩
theorem xe80 : x_all "NotationReader$Tape" 18 (2, 2, 0, .null) := ⟨⟨_, rfl, tm 43 (by decide +kernel), tm 44 (by decide +kernel), tm 3 (by decide +kernel)⟩, trivial, trivial, trivial, trivial, trivial⟩
theorem xe81 : x_all "NotationReader$Tape" 20 (1, 31, 0, .null) := ⟨trivial, ⟨_, rfl, Or.inl ⟨rfl, tm 45 (by decide +kernel)⟩⟩, trivial, trivial, trivial, trivial⟩
theorem xe82 : x_all "NotationReader$Tape" 21 (0, 1, 4, .null) := ⟨⟨_, "NotationReader$Tape", rfl, by decide, tm 82 (by decide +kernel), Or.inl rfl, fun h => by cases h⟩, trivial, trivial, trivial, trivial, trivial⟩
theorem xe83 : x_all "NotationReader$Tape" 25 (0, 1, 5, .null) := ⟨⟨_, "NotationReader$Tape", rfl, by decide, tm 84 (by decide +kernel), Or.inl rfl, fun h => by cases h⟩, trivial, trivial, trivial, trivial, trivial⟩
theorem xe84 : x_all "NotationReader$Tape" 28 (0, 1, 3, .null) := ⟨⟨_, "NotationReader$Tape", rfl, by decide, tm 81 (by decide +kernel), Or.inl rfl, fun h => by cases h⟩, trivial, trivial, trivial, trivial, trivial⟩
theorem xe85 : x_all "NotationReader$Tape" 32 (0, 1, 2, .null) := ⟨⟨_, "NotationReader$Tape", rfl, by decide, tm 79 (by decide +kernel), Or.inl rfl, fun h => by cases h⟩, trivial, trivial, trivial, trivial, trivial⟩
theorem xe86 : x_all "NotationReader$Tape" 35 (0, 2, 2, .null) := ⟨⟨_, "NotationReader$Token", rfl, by decide, tm 55 (by decide +kernel), Or.inl rfl, fun h => by cases h⟩, trivial, trivial, trivial, trivial, trivial⟩
theorem xe87 : x_all "NotationReader$Tape" 38 (1, 28, 2, .null) := ⟨trivial, ⟨_, rfl, Or.inr (Or.inr (Or.inl ⟨rfl, tm 259 (by decide +kernel), tm 261 (by decide +kernel)⟩))⟩, trivial, trivial, trivial, trivial⟩
theorem xe88 : x_all "NotationReader$Tape" 41 (1, 29, 2, .null) := ⟨trivial, ⟨_, rfl, Or.inr (Or.inr (Or.inl ⟨rfl, tm 263 (by decide +kernel), ts (by decide +kernel)⟩))⟩, trivial, trivial, trivial, trivial⟩
theorem xe89 : x_all "NotationReader$Tape" 45 (0, 2, 1, .null) := ⟨⟨_, "NotationReader$Token", rfl, by decide, tm 52 (by decide +kernel), Or.inl rfl, fun h => by cases h⟩, trivial, trivial, trivial, trivial, trivial⟩
theorem xe90 : x_all "NotationReader$Tape" 48 (0, 2, 3, .null) := ⟨⟨_, "NotationReader$Token", rfl, by decide, tm 57 (by decide +kernel), Or.inl rfl, fun h => by cases h⟩, trivial, trivial, trivial, trivial, trivial⟩
theorem xe91 : x_all "NotationReader$Tape" 51 (0, 2, 5, .null) := ⟨⟨_, "NotationReader$Token", rfl, by decide, tm 61 (by decide +kernel), Or.inl rfl, fun h => by cases h⟩, trivial, trivial, trivial, trivial, trivial⟩
theorem xe92 : x_all "NotationReader$Tape" 55 (1, 32, 2, .null) := ⟨trivial, ⟨_, rfl, Or.inr (Or.inr (Or.inl ⟨rfl, tm 274 (by decide +kernel), tm 276 (by decide +kernel)⟩))⟩, trivial, trivial, trivial, trivial⟩
theorem xe93 : x_all "NotationReader$Tape" 59 (1, 30, 2, .null) := ⟨trivial, ⟨_, rfl, Or.inr (Or.inr (Or.inl ⟨rfl, tm 267 (by decide +kernel), ts (by decide +kernel)⟩))⟩, trivial, trivial, trivial, trivial⟩
theorem xe94 : x_all "NotationReader$Tape" 86 (0, 2, 4, .null) := ⟨⟨_, "NotationReader$Token", rfl, by decide, tm 59 (by decide +kernel), Or.inl rfl, fun h => by cases h⟩, trivial, trivial, trivial, trivial, trivial⟩
theorem xe95 : x_all "NotationReader$Token" 3 (5, 0, 0, .null) := ⟨trivial, ⟨tm 48 (by decide +kernel), tm 35 (by decide +kernel), tm 36 (by decide +kernel)⟩, trivial, trivial, trivial, trivial⟩
theorem xe96 : x_all "NotationReader$Token" 9 (0, 2, 0, .null) := ⟨⟨_, "NotationReader$Token", rfl, by decide, tm 49 (by decide +kernel), Or.inl rfl, fun h => by cases h⟩, trivial, trivial, trivial, trivial, trivial⟩
theorem xe97 : x_all "NotationReader$Token" 15 (0, 2, 2, .null) := ⟨⟨_, "NotationReader$Token", rfl, by decide, tm 54 (by decide +kernel), Or.inl rfl, fun h => by cases h⟩, trivial, trivial, trivial, trivial, trivial⟩
theorem xe98 : x_all "NotationReaderModel" 1 (5, 0, 0, .null) := ⟨trivial, ⟨tm 634 (by decide +kernel), tm 35 (by decide +kernel), tm 36 (by decide +kernel)⟩, trivial, trivial, trivial, trivial⟩
theorem xe99 : x_all "NotationReaderModel" 7 (0, 3, 1, .int 1) := ⟨⟨_, "NotationReaderModel", rfl, by decide, tm 687 (by decide +kernel), Or.inl rfl, fun _ => ⟨rfl, rfl⟩⟩, trivial, trivial, trivial, trivial, trivial⟩
theorem xe100 : x_all "NotationReaderModel" 13 (0, 3, 3, .null) := ⟨⟨_, "NotationReaderModel", rfl, by decide, tm 689 (by decide +kernel), Or.inl rfl, fun h => by cases h⟩, trivial, trivial, trivial, trivial, trivial⟩
theorem xe101 : x_all "NotationReaderModel" 17 (6, 3, 0, .null) := ⟨trivial, trivial, trivial, ⟨_, rfl, tm 635 (by decide +kernel)⟩, trivial, trivial⟩
theorem xe102 : x_all "NotationReaderModel" 19 (7, 0, 0, .float 11) := ⟨trivial, trivial, trivial, trivial, trivial, ⟨rfl, by decide, "::=", tr 637 (by decide +kernel)⟩⟩
theorem xe103 : x_all "NotationReaderModel" 21 (7, 0, 0, .float 12) := ⟨trivial, trivial, trivial, trivial, trivial, ⟨rfl, by decide, "...", tr 638 (by decide +kernel)⟩⟩
theorem xe104 : x_all "NotationReaderModel" 23 (7, 0, 0, .float 13) := ⟨trivial, trivial, trivial, trivial, trivial, ⟨rfl, by decide, "..", tr 639 (by decide +kernel)⟩⟩
theorem xe105 : x_all "NotationReaderModel" 25 (7, 0, 0, .float 14) := ⟨trivial, trivial, trivial, trivial, trivial, ⟨rfl, by decide, "{", tr 640 (by decide +kernel)⟩⟩
theorem xe106 : x_all "NotationReaderModel" 27 (7, 0, 0, .float 15) := ⟨trivial, trivial, trivial, trivial, trivial, ⟨rfl, by decide, "}", tr 641 (by decide +kernel)⟩⟩
theorem xe107 : x_all "NotationReaderModel" 29 (7, 0, 0, .float 16) := ⟨trivial, trivial, trivial, trivial, trivial, ⟨rfl, by decide, "(", tr 642 (by decide +kernel)⟩⟩
theorem xe108 : x_all "NotationReaderModel" 31 (7, 0, 0, .float 17) := ⟨trivial, trivial, trivial, trivial, trivial, ⟨rfl, by decide, ")", tr 643 (by decide +kernel)⟩⟩
theorem xe109 : x_all "NotationReaderModel" 33 (7, 0, 0, .float 18) := ⟨trivial, trivial, trivial, trivial, trivial, ⟨rfl, by decide, "[", tr 644 (by decide +kernel)⟩⟩
theorem xe110 : x_all "NotationReaderModel" 35 (7, 0, 0, .float 19) := ⟨trivial, trivial, trivial, trivial, trivial, ⟨rfl, by decide, "]", tr 645 (by decide +kernel)⟩⟩
theorem xe111 : x_all "NotationReaderModel" 37 (7, 0, 0, .float 20) := ⟨trivial, trivial, trivial, trivial, trivial, ⟨rfl, by decide, ",", tr 646 (by decide +kernel)⟩⟩
theorem xe112 : x_all "NotationReaderModel" 39 (7, 0, 0, .float 21) := ⟨trivial, trivial, trivial, trivial, trivial, ⟨rfl, by decide, ":", tr 647 (by decide +kernel)⟩⟩
theorem xe113 : x_all "NotationReaderModel" 41 (7, 0, 0, .float 22) := ⟨trivial, trivial, trivial, trivial, trivial, ⟨rfl, by decide, "-", tr 648 (by decide +kernel)⟩⟩
theorem xe114 : x_all "NotationReaderModel" 43 (0, 3, 4, .int 1) := ⟨⟨_, "NotationReaderModel", rfl, by decide, tm 690 (by decide +kernel), Or.inl rfl, fun _ => ⟨rfl, rfl⟩⟩, trivial, trivial, trivial, trivial, trivial⟩
theorem xe115 : x_all "NotationReaderModel" 47 (7, 0, 0, .float 23) := ⟨trivial, trivial, trivial, trivial, trivial, ⟨rfl, by decide, "DEFINITIONS", tr 649 (by decide +kernel)⟩⟩
theorem xe116 : x_all "NotationReaderModel" 49 (7, 0, 0, .float 24) := ⟨trivial, trivial, trivial, trivial, trivial, ⟨rfl, by decide, "EXPLICIT", tr 650 (by decide +kernel)⟩⟩
theorem xe117 : x_all "NotationReaderModel" 51 (7, 0, 0, .float 25) := ⟨trivial, trivial, trivial, trivial, trivial, ⟨rfl, by decide, "IMPLICIT", tr 651 (by decide +kernel)⟩⟩
theorem xe118 : x_all "NotationReaderModel" 53 (7, 0, 0, .float 26) := ⟨trivial, trivial, trivial, trivial, trivial, ⟨rfl, by decide, "AUTOMATIC", tr 652 (by decide +kernel)⟩⟩
theorem xe119 : x_all "NotationReaderModel" 55 (7, 0, 0, .float 27) := ⟨trivial, trivial, trivial, trivial, trivial, ⟨rfl, by decide, "TAGS", tr 653 (by decide +kernel)⟩⟩
theorem xe120 : x_all "NotationReaderModel" 57 (7, 0, 0, .float 28) := ⟨trivial, trivial, trivial, trivial, trivial, ⟨rfl, by decide, "BEGIN", tr 654 (by decide +kernel)⟩⟩
theorem xe121 : x_all "NotationReaderModel" 59 (7, 0, 0, .float 29) := ⟨trivial, trivial, trivial, trivial, trivial, ⟨rfl, by decide, "END", tr 655 (by decide +kernel)⟩⟩
theorem xe122 : x_all "NotationReaderModel" 61 (7, 0, 0, .float 30) := ⟨trivial, trivial, trivial, trivial, trivial, ⟨rfl, by decide, "UNIVERSAL", tr 656 (by decide +kernel)⟩⟩
theorem xe123 : x_all "NotationReaderModel" 63 (7, 0, 0, .float 31) := ⟨trivial, trivial, trivial, trivial, trivial, ⟨rfl, by decide, "APPLICATION", tr 657 (by decide +kernel)⟩⟩
theorem xe124 : x_all "NotationReaderModel" 65 (7, 0, 0, .float 32) := ⟨trivial, trivial, trivial, trivial, trivial, ⟨rfl, by decide, "PRIVATE", tr 658 (by decide +kernel)⟩⟩
theorem xe125 : x_all "NotationReaderModel" 67 (7, 0, 0, .float 33) := ⟨trivial, trivial, trivial, trivial, trivial, ⟨rfl, by decide, "INTEGER", tr 659 (by decide +kernel)⟩⟩
theorem xe126 : x_all "NotationReaderModel" 69 (7, 0, 0, .float 34) := ⟨trivial, trivial, trivial, trivial, trivial, ⟨rfl, by decide, "ENUMERATED", tr 660 (by decide +kernel)⟩⟩
theorem xe127 : x_all "NotationReaderModel" 71 (7, 0, 0, .float 35) := ⟨trivial, trivial, trivial, trivial, trivial, ⟨rfl, by decide, "BIT", tr 661 (by decide +kernel)⟩⟩
theorem xe128 : x_all "NotationReaderModel" 73 (7, 0, 0, .float 36) := ⟨trivial, trivial, trivial, trivial, trivial, ⟨rfl, by decide, "STRING", tr 662 (by decide +kernel)⟩⟩
theorem xe129 : x_all "NotationReaderModel" 75 (7, 0, 0, .float 37) := ⟨trivial, trivial, trivial, trivial, trivial, ⟨rfl, by decide, "OCTET", tr 663 (by decide +kernel)⟩⟩
theorem xe130 : x_all "NotationReaderModel" 77 (7, 0, 0, .float 38) := ⟨trivial, trivial, trivial, trivial, trivial, ⟨rfl, by decide, "OBJECT", tr 664 (by decide +kernel)⟩⟩
theorem xe131 : x_all "NotationReaderModel" 79 (7, 0, 0, .float 39) := ⟨trivial, trivial, trivial, trivial, trivial, ⟨rfl, by decide, "IDENTIFIER", tr 665 (by decide +kernel)⟩⟩
theorem xe132 : x_all "NotationReaderModel" 81 (7, 0, 0, .float 40) := ⟨trivial, trivial, trivial, trivial, trivial, ⟨rfl, by decide, "SEQUENCE", tr 666 (by decide +kernel)⟩⟩
theorem xe133 : x_all "NotationReaderModel" 83 (7, 0, 0, .float 41) := ⟨trivial, trivial, trivial, trivial, trivial, ⟨rfl, by decide, "SET", tr 667 (by decide +kernel)⟩⟩
theorem xe134 : x_all "NotationReaderModel" 85 (7, 0, 0, .float 42) := ⟨trivial, trivial, trivial, trivial, trivial, ⟨rfl, by decide, "OF", tr 668 (by decide +kernel)⟩⟩
theorem xe135 : x_all "NotationReaderModel" 87 (7, 0, 0, .float 43) := ⟨trivial, trivial, trivial, trivial, trivial, ⟨rfl, by decide, "CHOICE", tr 669 (by decide +kernel)⟩⟩
theorem xe136 : x_all "NotationReaderModel" 89 (7, 0, 0, .float 44) := ⟨trivial, trivial, trivial, trivial, trivial, ⟨rfl, by decide, "SIZE", tr 670 (by decide +kernel)⟩⟩
theorem xe137 : x_all "NotationReaderModel" 91 (7, 0, 0, .float 45) := ⟨trivial, trivial, trivial, trivial, trivial, ⟨rfl, by decide, "OPTIONAL", tr 671 (by decide +kernel)⟩⟩
theorem xe138 : x_all "NotationReaderModel" 93 (7, 0, 0, .float 46) := ⟨trivial, trivial, trivial, trivial, trivial, ⟨rfl, by decide, "DEFAULT", tr 672 (by decide +kernel)⟩⟩
theorem xe139 : x_all "NotationReaderModel" 95 (7, 0, 0, .float 47) := ⟨trivial, trivial, trivial, trivial, trivial, ⟨rfl, by decide, "BOOLEAN", tr 673 (by decide +kernel)⟩⟩
theorem xe140 : x_all "NotationReaderModel" 97 (7, 0, 0, .float 48) := ⟨trivial, trivial, trivial, trivial, trivial, ⟨rfl, by decide, "TRUE", tr 674 (by decide +kernel)⟩⟩
theorem xe141 : x_all "NotationReaderModel" 99 (7, 0, 0, .float 49) := ⟨trivial, trivial, trivial, trivial, trivial, ⟨rfl, by decide, "FALSE", tr 675 (by decide +kernel)⟩⟩
theorem xe142 : x_all "NotationReaderModel" 101 (7, 0, 0, .float 50) := ⟨trivial, trivial, trivial, trivial, trivial, ⟨rfl, by decide, "NULL", tr 676 (by decide +kernel)⟩⟩
theorem xe143 : x_all "NotationReaderModel" 103 (7, 0, 0, .float 51) := ⟨trivial, trivial, trivial, trivial, trivial, ⟨rfl, by decide, "MIN", tr 677 (by decide +kernel)⟩⟩
theorem xe144 : x_all "NotationReaderModel" 105 (7, 0, 0, .float 52) := ⟨trivial, trivial, trivial, trivial, trivial, ⟨rfl, by decide, "MAX", tr 678 (by decide +kernel)⟩⟩
theorem xe145 : x_all "NotationReaderModel" 107 (7, 0, 0, .float 53) := ⟨trivial, trivial, trivial, trivial, trivial, ⟨rfl, by decide, "UTF8String", tr 679 (by decide +kernel)⟩⟩
theorem xe146 : x_all "NotationReaderModel" 109 (7, 0, 0, .float 54) := ⟨trivial, trivial, trivial, trivial, trivial, ⟨rfl, by decide, "PrintableString", tr 680 (by decide +kernel)⟩⟩
theorem xe147 : x_all "NotationReaderModel" 111 (7, 0, 0, .float 55) := ⟨trivial, trivial, trivial, trivial, trivial, ⟨rfl, by decide, "IA5String", tr 681 (by decide +kernel)⟩⟩
theorem xe148 : x_all "NotationReaderModel" 113 (7, 0, 0, .float 56) := ⟨trivial, trivial, trivial, trivial, trivial, ⟨rfl, by decide, "NumericString", tr 682 (by decide +kernel)⟩⟩
theorem xe149 : x_all "NotationReaderModel" 115 (7, 0, 0, .float 57) := ⟨trivial, trivial, trivial, trivial, trivial, ⟨rfl, by decide, "VisibleString", tr 683 (by decide +kernel)⟩⟩
theorem xe150 : x_all "NotationReaderModel" 117 (0, 3, 5, .int 1) := ⟨⟨_, "NotationReaderModel", rfl, by decide, tm 691 (by decide +kernel), Or.inl rfl, fun _ => ⟨rfl, rfl⟩⟩, trivial, trivial, trivial, trivial, trivial⟩
theorem xe151 : x_all "NotationReaderModel" 120 (6, 4, 0, .null) := ⟨trivial, trivial, trivial, ⟨_, rfl, tm 684 (by decide +kernel)⟩, trivial, trivial⟩
theorem xe152 : x_all "NotationReaderModel" 122 (0, 3, 15, .null) := ⟨⟨_, "NotationReaderModel", rfl, by decide, tm 700 (by decide +kernel), Or.inl rfl, fun h => by cases h⟩, trivial, trivial, trivial, trivial, trivial⟩
theorem xe153 : x_all "NotationReaderModel" 126 (0, 3, 16, .null) := ⟨⟨_, "NotationReaderModel", rfl, by decide, tm 701 (by decide +kernel), Or.inl rfl, fun h => by cases h⟩, trivial, trivial, trivial, trivial, trivial⟩
theorem xe154 : x_all "NotationReaderModel" 130 (0, 3, 17, .null) := ⟨⟨_, "NotationReaderModel", rfl, by decide, tm 702 (by decide +kernel), Or.inl rfl, fun h => by cases h⟩, trivial, trivial, trivial, trivial, trivial⟩
theorem xe155 : x_all "NotationReaderModel" 133 (0, 3, 18, .null) := ⟨⟨_, "NotationReaderModel", rfl, by decide, tm 703 (by decide +kernel), Or.inl rfl, fun h => by cases h⟩, trivial, trivial, trivial, trivial, trivial⟩
theorem xe156 : x_all "NotationReaderModel" 136 (0, 3, 19, .null) := ⟨⟨_, "NotationReaderModel", rfl, by decide, tm 704 (by decide +kernel), Or.inl rfl, fun h => by cases h⟩, trivial, trivial, trivial, trivial, trivial⟩
theorem xe157 : x_all "NotationReaderModel" 139 (0, 3, 20, .null) := ⟨⟨_, "NotationReaderModel", rfl, by decide, tm 705 (by decide +kernel), Or.inl rfl, fun h => by cases h⟩, trivial, trivial, trivial, trivial, trivial⟩
theorem xe158 : x_all "NotationReaderModel" 142 (0, 3, 0, .null) := ⟨⟨_, "NotationReaderModel", rfl, by decide, tm 686 (by decide +kernel), Or.inl rfl, fun h => by cases h⟩, trivial, trivial, trivial, trivial, trivial⟩
theorem xe159 : x_all "NotationReaderModel" 145 (0, 3, 2, .null) := ⟨⟨_, "NotationReaderModel", rfl, by decide, tm 688 (by decide +kernel), Or.inl rfl, fun h => by cases h⟩, trivial, trivial, trivial, trivial, trivial⟩
theorem xe160 : x_all "NotationReaderModel" 308 (1, 35, 2, .null) := ⟨trivial, ⟨_, rfl, Or.inr (Or.inr (Or.inl ⟨rfl, tm 758 (by decide +kernel), ts (by decide +kernel)⟩))⟩, trivial, trivial, trivial, trivial⟩
theorem xe161 : x_all "NotationReaderModel" 148 (0, 3, 11, .null) := ⟨⟨_, "NotationReaderModel", rfl, by decide, tm 697 (by decide +kernel), Or.inl rfl, fun h => by cases h⟩, trivial, trivial, trivial, trivial, trivial⟩
theorem xe162 : x_all "NotationReaderModel" 173 (0, 3, 7, .null) := ⟨⟨_, "NotationReaderModel", rfl, by decide, tm 693 (by decide +kernel), Or.inl rfl, fun h => by cases h⟩, trivial, trivial, trivial, trivial, trivial⟩
theorem xe163 : x_all "NotationReaderModel" 176 (0, 3, 6, .null) := ⟨⟨_, "NotationReaderModel", rfl, by decide, tm 692 (by decide +kernel), Or.inl rfl, fun h => by cases h⟩, trivial, trivial, trivial, trivial, trivial⟩
theorem xe164 : x_all "NotationReaderModel" 228 (11, 6, 0, .null) := ⟨trivial, trivial, ⟨by decide, _, rfl, tm 770 (by decide +kernel)⟩, trivial, trivial, trivial⟩
theorem xe165 : x_all "NotationReaderModel" 235 (1, 51, 2, .null) := ⟨trivial, ⟨_, rfl, Or.inr (Or.inr (Or.inl ⟨rfl, tm 1097 (by decide +kernel), ts (by decide +kernel)⟩))⟩, trivial, trivial, trivial, trivial⟩
theorem xe166 : x_all "NotationReaderModel" 239 (1, 47, 2, .null) := ⟨trivial, ⟨_, rfl, Or.inr (Or.inr (Or.inl ⟨rfl, tm 771 (by decide +kernel), ts (by decide +kernel)⟩))⟩, trivial, trivial, trivial, trivial⟩
theorem xe167 : x_all "NotationReaderModel" 259 (1, 49, 2, .null) := ⟨trivial, ⟨_, rfl, Or.inr (Or.inr (Or.inl ⟨rfl, tm 1044 (by decide +kernel), ts (by decide +kernel)⟩))⟩, trivial, trivial, trivial, trivial⟩
theorem xe168 : x_all "NotationReaderModel" 267 (0, 3, 12, .null) := ⟨⟨_, "NotationReaderModel", rfl, by decide, tm 698 (by decide +kernel), Or.inl rfl, fun h => by cases h⟩, trivial, trivial, trivial, trivial, trivial⟩
theorem xe169 : x_all "NotationReaderModel" 285 (0, 3, 14, .null) := ⟨⟨_, "NotationReaderModel", rfl, by decide, tm 699 (by decide +kernel), Or.inl rfl, fun h => by cases h⟩, trivial, trivial, trivial, trivial, trivial⟩
theorem xe170 : x_all "NotationReaderModel" 311 (1, 46, 2, .null) := ⟨trivial, ⟨_, rfl, Or.inr (Or.inr (Or.inl ⟨rfl, tm 1151 (by decide +kernel), ts (by decide +kernel)⟩))⟩, trivial, trivial, trivial, trivial⟩
theorem xe171 : x_all "NotationReaderModel" 170 (1, 48, 2, .null) := ⟨trivial, ⟨_, rfl, Or.inr (Or.inr (Or.inl ⟨rfl, tm 775 (by decide +kernel), ts (by decide +kernel)⟩))⟩, trivial, trivial, trivial, trivial⟩
theorem xe172 : x_all "NotationReaderModel" 205 (0, 3, 10, .null) := ⟨⟨_, "NotationReaderModel", rfl, by decide, tm 696 (by decide +kernel), Or.inl rfl, fun h => by cases h⟩, trivial, trivial, trivial, trivial, trivial⟩
theorem xe173 : x_all "NotationReaderModel" 209 (0, 3, 8, .null) := ⟨⟨_, "NotationReaderModel", rfl, by decide, tm 694 (by decide +kernel), Or.inl rfl, fun h => by cases h⟩, trivial, trivial, trivial, trivial, trivial⟩
theorem xe174 : x_all "NotationReaderModel" 231 (1, 50, 2, .null) := ⟨trivial, ⟨_, rfl, Or.inr (Or.inr (Or.inl ⟨rfl, tm 1048 (by decide +kernel), ts (by decide +kernel)⟩))⟩, trivial, trivial, trivial, trivial⟩
theorem xe175 : x_all "NotationReaderModel" 228 (9, 6, 0, .null) := ⟨trivial, trivial, trivial, trivial, ⟨_, rfl, tm 770 (by decide +kernel), tm 228 (by decide +kernel), tm 12 (by decide +kernel)⟩, trivial⟩
theorem xe176 : x_all "NotationReaderModel" 230 (14, 6, 0, .null) := ⟨trivial, trivial, trivial, trivial, ⟨_, xNames, rfl, rfl, by decide +kernel, by decide, by decide +kernel, tmz (by decide +kernel)⟩, trivial⟩
theorem xe177 : x_all "java/util/ArrayList" 1 (1, 55, 0, .null) := ⟨trivial, ⟨_, rfl, Or.inl ⟨rfl, tm 104 (by decide +kernel)⟩⟩, trivial, trivial, trivial, trivial⟩
theorem xe178 : x_all "java/util/ArrayList" 9 (0, 4, 0, .null) := ⟨⟨_, "java/util/ArrayList", rfl, by decide, tm 113 (by decide +kernel), Or.inl rfl, fun h => by cases h⟩, trivial, trivial, trivial, trivial, trivial⟩
theorem xe179 : x_all "java/util/ArrayList" 39 (4, 0, 0, .float 58) := ⟨trivial, trivial, trivial, trivial, trivial, ⟨rfl, tm 111 (by decide +kernel)⟩⟩
theorem xe180 : x_all "java/util/ArrayList" 48 (0, 4, 1, .null) := ⟨⟨_, "java/util/ArrayList", rfl, by decide, tm 114 (by decide +kernel), Or.inl rfl, fun h => by cases h⟩, trivial, trivial, trivial, trivial, trivial⟩
theorem xe181 : x_all "java/util/ArrayList" 63 (0, 4, 2, .null) := ⟨⟨_, "java/util/ArrayList", rfl, by decide, tm 116 (by decide +kernel), Or.inr (tm 117 (by decide +kernel)), fun h => by cases h⟩, trivial, trivial, trivial, trivial, trivial⟩
theorem xe182 : x_all "java/util/AbstractList" 1 (1, 56, 0, .null) := ⟨trivial, ⟨_, rfl, Or.inl ⟨rfl, tm 107 (by decide +kernel)⟩⟩, trivial, trivial, trivial, trivial⟩
theorem xe183 : x_all "java/util/AbstractList" 7 (0, 4, 2, .null) := ⟨⟨_, "java/util/AbstractList", rfl, by decide, tm 115 (by decide +kernel), Or.inl rfl, fun h => by cases h⟩, trivial, trivial, trivial, trivial, trivial⟩
theorem xe184 : x_all "java/util/AbstractCollection" 1 (5, 0, 0, .null) := ⟨trivial, ⟨tm 110 (by decide +kernel), tm 35 (by decide +kernel), tm 36 (by decide +kernel)⟩, trivial, trivial, trivial, trivial⟩
theorem x_pool {own : String} {l : List (Nat × ab_N)} (h : ∀ q ∈ l, x_all own q.1 q.2) {x : Nat} {n : ab_N} (hx : xlk l x = some n) : x_all own x n := by
  unfold xlk at hx
  cases hf : l.find? (fun q => q.1 == x) with
  | none => rw [hf] at hx; cases hx
  | some q =>
    rw [hf] at hx
    have h2 : q.1 = x := by have z := List.find?_some hf; simpa using z
    have h3 : q.2 = n := Option.some.inj hx
    have h4 := h q (List.mem_of_find?_eq_some hf)
    rw [h2, h3] at h4
    exact h4
theorem xp0 : ∀ q ∈ xP0, x_all "NotationReaderLaw" q.1 q.2 := List.forall_mem_cons.mpr ⟨xe0, List.forall_mem_cons.mpr ⟨xe1, List.forall_mem_cons.mpr ⟨xe2, List.forall_mem_cons.mpr ⟨xe3, List.forall_mem_cons.mpr ⟨xe4, List.forall_mem_cons.mpr ⟨xe5, List.forall_mem_cons.mpr ⟨xe6, List.forall_mem_cons.mpr ⟨xe7, List.forall_mem_cons.mpr ⟨xe8, List.forall_mem_cons.mpr ⟨xe9, List.forall_mem_cons.mpr ⟨xe10, List.forall_mem_cons.mpr ⟨xe11, List.forall_mem_cons.mpr ⟨xe12, List.forall_mem_cons.mpr ⟨xe13, List.forall_mem_cons.mpr ⟨xe14, List.forall_mem_cons.mpr ⟨xe15, List.forall_mem_cons.mpr ⟨xe16, List.forall_mem_cons.mpr ⟨xe17, List.forall_mem_cons.mpr ⟨xe18, List.forall_mem_cons.mpr ⟨xe19, List.forall_mem_cons.mpr ⟨xe20, List.forall_mem_cons.mpr ⟨xe21, List.forall_mem_cons.mpr ⟨xe22, List.forall_mem_cons.mpr ⟨xe23, List.forall_mem_cons.mpr ⟨xe24, fun _ h => absurd h List.not_mem_nil⟩⟩⟩⟩⟩⟩⟩⟩⟩⟩⟩⟩⟩⟩⟩⟩⟩⟩⟩⟩⟩⟩⟩⟩⟩
theorem xp1 : ∀ q ∈ xP1, x_all "NotationReaderLaw" q.1 q.2 := List.forall_mem_cons.mpr ⟨xe25, List.forall_mem_cons.mpr ⟨xe26, fun _ h => absurd h List.not_mem_nil⟩⟩
theorem xp2 : ∀ q ∈ xP2, x_all "NotationReaderLaw" q.1 q.2 := List.forall_mem_cons.mpr ⟨xe27, List.forall_mem_cons.mpr ⟨xe28, fun _ h => absurd h List.not_mem_nil⟩⟩
theorem xp3 : ∀ q ∈ xP3, x_all "NotationReaderLaw" q.1 q.2 := List.forall_mem_cons.mpr ⟨xe29, List.forall_mem_cons.mpr ⟨xe30, fun _ h => absurd h List.not_mem_nil⟩⟩
theorem xp4 : ∀ q ∈ xP4, x_all "NotationReaderLaw" q.1 q.2 := List.forall_mem_cons.mpr ⟨xe28, List.forall_mem_cons.mpr ⟨xe31, fun _ h => absurd h List.not_mem_nil⟩⟩
theorem xp5 : ∀ q ∈ xP5, x_all "NotationReaderLaw" q.1 q.2 := List.forall_mem_cons.mpr ⟨xe28, List.forall_mem_cons.mpr ⟨xe32, List.forall_mem_cons.mpr ⟨xe33, fun _ h => absurd h List.not_mem_nil⟩⟩⟩
theorem xp6 : ∀ q ∈ xP6, x_all "NotationReaderLaw" q.1 q.2 := List.forall_mem_cons.mpr ⟨xe28, List.forall_mem_cons.mpr ⟨xe30, List.forall_mem_cons.mpr ⟨xe34, fun _ h => absurd h List.not_mem_nil⟩⟩⟩
theorem xp7 : ∀ q ∈ xP7, x_all "NotationReaderLaw" q.1 q.2 := List.forall_mem_cons.mpr ⟨xe28, List.forall_mem_cons.mpr ⟨xe33, List.forall_mem_cons.mpr ⟨xe35, fun _ h => absurd h List.not_mem_nil⟩⟩⟩
theorem xp8 : ∀ q ∈ xP8, x_all "NotationReaderLaw" q.1 q.2 := List.forall_mem_cons.mpr ⟨xe28, List.forall_mem_cons.mpr ⟨xe30, List.forall_mem_cons.mpr ⟨xe36, fun _ h => absurd h List.not_mem_nil⟩⟩⟩
theorem xp9 : ∀ q ∈ xP9, x_all "NotationReaderLaw" q.1 q.2 := List.forall_mem_cons.mpr ⟨xe28, List.forall_mem_cons.mpr ⟨xe37, fun _ h => absurd h List.not_mem_nil⟩⟩
theorem xp10 : ∀ q ∈ xP10, x_all "NotationReader" q.1 q.2 := List.forall_mem_cons.mpr ⟨xe38, List.forall_mem_cons.mpr ⟨xe39, List.forall_mem_cons.mpr ⟨xe40, List.forall_mem_cons.mpr ⟨xe41, List.forall_mem_cons.mpr ⟨xe42, List.forall_mem_cons.mpr ⟨xe43, List.forall_mem_cons.mpr ⟨xe44, List.forall_mem_cons.mpr ⟨xe45, fun _ h => absurd h List.not_mem_nil⟩⟩⟩⟩⟩⟩⟩⟩
theorem xp11 : ∀ q ∈ xP11, x_all "NotationReader" q.1 q.2 := List.forall_mem_cons.mpr ⟨xe41, List.forall_mem_cons.mpr ⟨xe46, List.forall_mem_cons.mpr ⟨xe47, List.forall_mem_cons.mpr ⟨xe48, List.forall_mem_cons.mpr ⟨xe49, List.forall_mem_cons.mpr ⟨xe50, fun _ h => absurd h List.not_mem_nil⟩⟩⟩⟩⟩⟩
theorem xp12 : ∀ q ∈ xP12, x_all "NotationReader" q.1 q.2 := List.forall_mem_cons.mpr ⟨xe41, List.forall_mem_cons.mpr ⟨xe46, List.forall_mem_cons.mpr ⟨xe51, List.forall_mem_cons.mpr ⟨xe52, List.forall_mem_cons.mpr ⟨xe53, fun _ h => absurd h List.not_mem_nil⟩⟩⟩⟩⟩
theorem xp13 : ∀ q ∈ xP13, x_all "NotationReader" q.1 q.2 := List.forall_mem_cons.mpr ⟨xe41, List.forall_mem_cons.mpr ⟨xe44, List.forall_mem_cons.mpr ⟨xe45, List.forall_mem_cons.mpr ⟨xe46, List.forall_mem_cons.mpr ⟨xe54, List.forall_mem_cons.mpr ⟨xe55, List.forall_mem_cons.mpr ⟨xe56, List.forall_mem_cons.mpr ⟨xe57, fun _ h => absurd h List.not_mem_nil⟩⟩⟩⟩⟩⟩⟩⟩
theorem xp14 : ∀ q ∈ xP14, x_all "NotationReader" q.1 q.2 := List.forall_mem_cons.mpr ⟨xe45, fun _ h => absurd h List.not_mem_nil⟩
theorem xp15 : ∀ q ∈ xP15, x_all "NotationReader" q.1 q.2 := List.forall_mem_cons.mpr ⟨xe51, List.forall_mem_cons.mpr ⟨xe53, List.forall_mem_cons.mpr ⟨xe58, List.forall_mem_cons.mpr ⟨xe59, fun _ h => absurd h List.not_mem_nil⟩⟩⟩⟩
theorem xp16 : ∀ q ∈ xP16, x_all "NotationReader" q.1 q.2 := List.forall_mem_cons.mpr ⟨xe44, List.forall_mem_cons.mpr ⟨xe57, List.forall_mem_cons.mpr ⟨xe58, List.forall_mem_cons.mpr ⟨xe60, List.forall_mem_cons.mpr ⟨xe61, fun _ h => absurd h List.not_mem_nil⟩⟩⟩⟩⟩
theorem xp17 : ∀ q ∈ xP17, x_all "NotationReader" q.1 q.2 := List.forall_mem_cons.mpr ⟨xe58, List.forall_mem_cons.mpr ⟨xe62, List.forall_mem_cons.mpr ⟨xe63, List.forall_mem_cons.mpr ⟨xe64, fun _ h => absurd h List.not_mem_nil⟩⟩⟩⟩
theorem xp18 : ∀ q ∈ xP18, x_all "NotationReader" q.1 q.2 := List.forall_mem_cons.mpr ⟨xe41, List.forall_mem_cons.mpr ⟨xe58, List.forall_mem_cons.mpr ⟨xe60, List.forall_mem_cons.mpr ⟨xe65, fun _ h => absurd h List.not_mem_nil⟩⟩⟩⟩
theorem xp19 : ∀ q ∈ xP19, x_all "NotationReader" q.1 q.2 := List.forall_mem_cons.mpr ⟨xe41, List.forall_mem_cons.mpr ⟨xe58, List.forall_mem_cons.mpr ⟨xe62, List.forall_mem_cons.mpr ⟨xe64, List.forall_mem_cons.mpr ⟨xe66, fun _ h => absurd h List.not_mem_nil⟩⟩⟩⟩⟩
theorem xp20 : ∀ q ∈ xP20, x_all "NotationReader" q.1 q.2 := List.forall_mem_cons.mpr ⟨xe41, List.forall_mem_cons.mpr ⟨xe44, List.forall_mem_cons.mpr ⟨xe46, List.forall_mem_cons.mpr ⟨xe51, List.forall_mem_cons.mpr ⟨xe53, List.forall_mem_cons.mpr ⟨xe57, List.forall_mem_cons.mpr ⟨xe67, fun _ h => absurd h List.not_mem_nil⟩⟩⟩⟩⟩⟩⟩
theorem xp21 : ∀ q ∈ xP21, x_all "NotationReader" q.1 q.2 := List.forall_mem_cons.mpr ⟨xe44, List.forall_mem_cons.mpr ⟨xe51, List.forall_mem_cons.mpr ⟨xe53, List.forall_mem_cons.mpr ⟨xe57, List.forall_mem_cons.mpr ⟨xe68, fun _ h => absurd h List.not_mem_nil⟩⟩⟩⟩⟩
theorem xp22 : ∀ q ∈ xP22, x_all "NotationReader" q.1 q.2 := List.forall_mem_cons.mpr ⟨xe41, List.forall_mem_cons.mpr ⟨xe69, List.forall_mem_cons.mpr ⟨xe70, List.forall_mem_cons.mpr ⟨xe71, List.forall_mem_cons.mpr ⟨xe72, List.forall_mem_cons.mpr ⟨xe73, List.forall_mem_cons.mpr ⟨xe74, fun _ h => absurd h List.not_mem_nil⟩⟩⟩⟩⟩⟩⟩
theorem xp23 : ∀ q ∈ xP23, x_all "NotationReader" q.1 q.2 := fun _ h => absurd h List.not_mem_nil
theorem xp24 : ∀ q ∈ xP24, x_all "NotationReader" q.1 q.2 := List.forall_mem_cons.mpr ⟨xe41, List.forall_mem_cons.mpr ⟨xe44, List.forall_mem_cons.mpr ⟨xe45, List.forall_mem_cons.mpr ⟨xe46, List.forall_mem_cons.mpr ⟨xe54, List.forall_mem_cons.mpr ⟨xe62, List.forall_mem_cons.mpr ⟨xe64, List.forall_mem_cons.mpr ⟨xe69, List.forall_mem_cons.mpr ⟨xe75, List.forall_mem_cons.mpr ⟨xe76, fun _ h => absurd h List.not_mem_nil⟩⟩⟩⟩⟩⟩⟩⟩⟩⟩
theorem xp25 : ∀ q ∈ xP25, x_all "NotationReader$Tape" q.1 q.2 := List.forall_mem_cons.mpr ⟨xe77, List.forall_mem_cons.mpr ⟨xe78, List.forall_mem_cons.mpr ⟨xe79, List.forall_mem_cons.mpr ⟨xe80, List.forall_mem_cons.mpr ⟨xe81, List.forall_mem_cons.mpr ⟨xe82, List.forall_mem_cons.mpr ⟨xe83, fun _ h => absurd h List.not_mem_nil⟩⟩⟩⟩⟩⟩⟩
theorem xp26 : ∀ q ∈ xP26, x_all "NotationReader$Tape" q.1 q.2 := List.forall_mem_cons.mpr ⟨xe78, List.forall_mem_cons.mpr ⟨xe84, fun _ h => absurd h List.not_mem_nil⟩⟩
theorem xp27 : ∀ q ∈ xP27, x_all "NotationReader$Tape" q.1 q.2 := List.forall_mem_cons.mpr ⟨xe83, List.forall_mem_cons.mpr ⟨xe85, List.forall_mem_cons.mpr ⟨xe86, List.forall_mem_cons.mpr ⟨xe87, fun _ h => absurd h List.not_mem_nil⟩⟩⟩⟩
theorem xp28 : ∀ q ∈ xP28, x_all "NotationReader$Tape" q.1 q.2 := List.forall_mem_cons.mpr ⟨xe82, List.forall_mem_cons.mpr ⟨xe83, List.forall_mem_cons.mpr ⟨xe84, List.forall_mem_cons.mpr ⟨xe85, List.forall_mem_cons.mpr ⟨xe86, List.forall_mem_cons.mpr ⟨xe88, List.forall_mem_cons.mpr ⟨xe89, List.forall_mem_cons.mpr ⟨xe90, List.forall_mem_cons.mpr ⟨xe91, List.forall_mem_cons.mpr ⟨xe92, List.forall_mem_cons.mpr ⟨xe93, List.forall_mem_cons.mpr ⟨xe94, fun _ h => absurd h List.not_mem_nil⟩⟩⟩⟩⟩⟩⟩⟩⟩⟩⟩⟩
theorem xp29 : ∀ q ∈ xP29, x_all "NotationReader$Tape" q.1 q.2 := List.forall_mem_cons.mpr ⟨xe84, List.forall_mem_cons.mpr ⟨xe93, fun _ h => absurd h List.not_mem_nil⟩⟩
theorem xp30 : ∀ q ∈ xP30, x_all "NotationReader$Tape" q.1 q.2 := List.forall_mem_cons.mpr ⟨xe78, List.forall_mem_cons.mpr ⟨xe84, fun _ h => absurd h List.not_mem_nil⟩⟩
theorem xp31 : ∀ q ∈ xP31, x_all "NotationReader$Token" q.1 q.2 := List.forall_mem_cons.mpr ⟨xe95, List.forall_mem_cons.mpr ⟨xe96, fun _ h => absurd h List.not_mem_nil⟩⟩
theorem xp32 : ∀ q ∈ xP32, x_all "NotationReader$Token" q.1 q.2 := List.forall_mem_cons.mpr ⟨xe96, List.forall_mem_cons.mpr ⟨xe97, fun _ h => absurd h List.not_mem_nil⟩⟩
theorem xp33 : ∀ q ∈ xP33, x_all "NotationReaderModel" q.1 q.2 := List.forall_mem_cons.mpr ⟨xe98, List.forall_mem_cons.mpr ⟨xe99, List.forall_mem_cons.mpr ⟨xe100, List.forall_mem_cons.mpr ⟨xe101, List.forall_mem_cons.mpr ⟨xe102, List.forall_mem_cons.mpr ⟨xe103, List.forall_mem_cons.mpr ⟨xe104, List.forall_mem_cons.mpr ⟨xe105, List.forall_mem_cons.mpr ⟨xe106, List.forall_mem_cons.mpr ⟨xe107, List.forall_mem_cons.mpr ⟨xe108, List.forall_mem_cons.mpr ⟨xe109, List.forall_mem_cons.mpr ⟨xe110, List.forall_mem_cons.mpr ⟨xe111, List.forall_mem_cons.mpr ⟨xe112, List.forall_mem_cons.mpr ⟨xe113, List.forall_mem_cons.mpr ⟨xe114, List.forall_mem_cons.mpr ⟨xe115, List.forall_mem_cons.mpr ⟨xe116, List.forall_mem_cons.mpr ⟨xe117, List.forall_mem_cons.mpr ⟨xe118, List.forall_mem_cons.mpr ⟨xe119, List.forall_mem_cons.mpr ⟨xe120, List.forall_mem_cons.mpr ⟨xe121, List.forall_mem_cons.mpr ⟨xe122, List.forall_mem_cons.mpr ⟨xe123, List.forall_mem_cons.mpr ⟨xe124, List.forall_mem_cons.mpr ⟨xe125, List.forall_mem_cons.mpr ⟨xe126, List.forall_mem_cons.mpr ⟨xe127, List.forall_mem_cons.mpr ⟨xe128, List.forall_mem_cons.mpr ⟨xe129, List.forall_mem_cons.mpr ⟨xe130, List.forall_mem_cons.mpr ⟨xe131, List.forall_mem_cons.mpr ⟨xe132, List.forall_mem_cons.mpr ⟨xe133, List.forall_mem_cons.mpr ⟨xe134, List.forall_mem_cons.mpr ⟨xe135, List.forall_mem_cons.mpr ⟨xe136, List.forall_mem_cons.mpr ⟨xe137, List.forall_mem_cons.mpr ⟨xe138, List.forall_mem_cons.mpr ⟨xe139, List.forall_mem_cons.mpr ⟨xe140, List.forall_mem_cons.mpr ⟨xe141, List.forall_mem_cons.mpr ⟨xe142, List.forall_mem_cons.mpr ⟨xe143, List.forall_mem_cons.mpr ⟨xe144, List.forall_mem_cons.mpr ⟨xe145, List.forall_mem_cons.mpr ⟨xe146, List.forall_mem_cons.mpr ⟨xe147, List.forall_mem_cons.mpr ⟨xe148, List.forall_mem_cons.mpr ⟨xe149, List.forall_mem_cons.mpr ⟨xe150, List.forall_mem_cons.mpr ⟨xe151, List.forall_mem_cons.mpr ⟨xe152, List.forall_mem_cons.mpr ⟨xe153, List.forall_mem_cons.mpr ⟨xe154, List.forall_mem_cons.mpr ⟨xe155, List.forall_mem_cons.mpr ⟨xe156, List.forall_mem_cons.mpr ⟨xe157, fun _ h => absurd h List.not_mem_nil⟩⟩⟩⟩⟩⟩⟩⟩⟩⟩⟩⟩⟩⟩⟩⟩⟩⟩⟩⟩⟩⟩⟩⟩⟩⟩⟩⟩⟩⟩⟩⟩⟩⟩⟩⟩⟩⟩⟩⟩⟩⟩⟩⟩⟩⟩⟩⟩⟩⟩⟩⟩⟩⟩⟩⟩⟩⟩⟩⟩
theorem xp34 : ∀ q ∈ xP34, x_all "NotationReaderModel" q.1 q.2 := List.forall_mem_cons.mpr ⟨xe158, fun _ h => absurd h List.not_mem_nil⟩
theorem xp35 : ∀ q ∈ xP35, x_all "NotationReaderModel" q.1 q.2 := List.forall_mem_cons.mpr ⟨xe158, fun _ h => absurd h List.not_mem_nil⟩
theorem xp36 : ∀ q ∈ xP36, x_all "NotationReaderModel" q.1 q.2 := List.forall_mem_cons.mpr ⟨xe99, List.forall_mem_cons.mpr ⟨xe158, List.forall_mem_cons.mpr ⟨xe159, List.forall_mem_cons.mpr ⟨xe160, fun _ h => absurd h List.not_mem_nil⟩⟩⟩⟩
theorem xp37 : ∀ q ∈ xP37, x_all "NotationReaderModel" q.1 q.2 := List.forall_mem_cons.mpr ⟨xe158, List.forall_mem_cons.mpr ⟨xe159, List.forall_mem_cons.mpr ⟨xe160, fun _ h => absurd h List.not_mem_nil⟩⟩⟩
theorem xp38 : ∀ q ∈ xP38, x_all "NotationReaderModel" q.1 q.2 := List.forall_mem_cons.mpr ⟨xe100, List.forall_mem_cons.mpr ⟨xe158, List.forall_mem_cons.mpr ⟨xe159, List.forall_mem_cons.mpr ⟨xe161, List.forall_mem_cons.mpr ⟨xe162, List.forall_mem_cons.mpr ⟨xe163, List.forall_mem_cons.mpr ⟨xe164, List.forall_mem_cons.mpr ⟨xe165, List.forall_mem_cons.mpr ⟨xe166, List.forall_mem_cons.mpr ⟨xe167, List.forall_mem_cons.mpr ⟨xe168, List.forall_mem_cons.mpr ⟨xe169, fun _ h => absurd h List.not_mem_nil⟩⟩⟩⟩⟩⟩⟩⟩⟩⟩⟩⟩
theorem xp39 : ∀ q ∈ xP39, x_all "NotationReaderModel" q.1 q.2 := List.forall_mem_cons.mpr ⟨xe100, List.forall_mem_cons.mpr ⟨xe158, fun _ h => absurd h List.not_mem_nil⟩⟩
theorem xp40 : ∀ q ∈ xP40, x_all "NotationReaderModel" q.1 q.2 := List.forall_mem_cons.mpr ⟨xe153, List.forall_mem_cons.mpr ⟨xe154, List.forall_mem_cons.mpr ⟨xe155, List.forall_mem_cons.mpr ⟨xe158, List.forall_mem_cons.mpr ⟨xe160, List.forall_mem_cons.mpr ⟨xe170, fun _ h => absurd h List.not_mem_nil⟩⟩⟩⟩⟩⟩
theorem xp41 : ∀ q ∈ xP41, x_all "NotationReaderModel" q.1 q.2 := List.forall_mem_cons.mpr ⟨xe155, List.forall_mem_cons.mpr ⟨xe156, List.forall_mem_cons.mpr ⟨xe158, List.forall_mem_cons.mpr ⟨xe160, List.forall_mem_cons.mpr ⟨xe170, fun _ h => absurd h List.not_mem_nil⟩⟩⟩⟩⟩
theorem xp42 : ∀ q ∈ xP42, x_all "NotationReaderModel" q.1 q.2 := List.forall_mem_cons.mpr ⟨xe152, List.forall_mem_cons.mpr ⟨xe153, List.forall_mem_cons.mpr ⟨xe158, List.forall_mem_cons.mpr ⟨xe160, List.forall_mem_cons.mpr ⟨xe170, fun _ h => absurd h List.not_mem_nil⟩⟩⟩⟩⟩
theorem xp43 : ∀ q ∈ xP43, x_all "NotationReaderModel" q.1 q.2 := List.forall_mem_cons.mpr ⟨xe152, List.forall_mem_cons.mpr ⟨xe158, List.forall_mem_cons.mpr ⟨xe160, List.forall_mem_cons.mpr ⟨xe170, fun _ h => absurd h List.not_mem_nil⟩⟩⟩⟩
theorem xp44 : ∀ q ∈ xP44, x_all "NotationReaderModel" q.1 q.2 := List.forall_mem_cons.mpr ⟨xe157, List.forall_mem_cons.mpr ⟨xe158, List.forall_mem_cons.mpr ⟨xe160, List.forall_mem_cons.mpr ⟨xe170, fun _ h => absurd h List.not_mem_nil⟩⟩⟩⟩
theorem xp45 : ∀ q ∈ xP45, x_all "NotationReaderModel" q.1 q.2 := List.forall_mem_cons.mpr ⟨xe158, List.forall_mem_cons.mpr ⟨xe159, List.forall_mem_cons.mpr ⟨xe169, List.forall_mem_cons.mpr ⟨xe160, fun _ h => absurd h List.not_mem_nil⟩⟩⟩⟩
theorem xp46 : ∀ q ∈ xP46, x_all "NotationReaderModel" q.1 q.2 := List.forall_mem_cons.mpr ⟨xe169, fun _ h => absurd h List.not_mem_nil⟩
theorem xp47 : ∀ q ∈ xP47, x_all "NotationReaderModel" q.1 q.2 := List.forall_mem_cons.mpr ⟨xe114, List.forall_mem_cons.mpr ⟨xe159, List.forall_mem_cons.mpr ⟨xe161, List.forall_mem_cons.mpr ⟨xe171, List.forall_mem_cons.mpr ⟨xe162, List.forall_mem_cons.mpr ⟨xe163, List.forall_mem_cons.mpr ⟨xe172, List.forall_mem_cons.mpr ⟨xe173, fun _ h => absurd h List.not_mem_nil⟩⟩⟩⟩⟩⟩⟩⟩
theorem xp48 : ∀ q ∈ xP48, x_all "NotationReaderModel" q.1 q.2 := List.forall_mem_cons.mpr ⟨xe159, List.forall_mem_cons.mpr ⟨xe161, fun _ h => absurd h List.not_mem_nil⟩⟩
theorem xp49 : ∀ q ∈ xP49, x_all "NotationReaderModel" q.1 q.2 := List.forall_mem_cons.mpr ⟨xe105, List.forall_mem_cons.mpr ⟨xe106, List.forall_mem_cons.mpr ⟨xe112, List.forall_mem_cons.mpr ⟨xe113, List.forall_mem_cons.mpr ⟨xe140, List.forall_mem_cons.mpr ⟨xe141, List.forall_mem_cons.mpr ⟨xe142, List.forall_mem_cons.mpr ⟨xe162, List.forall_mem_cons.mpr ⟨xe163, List.forall_mem_cons.mpr ⟨xe172, List.forall_mem_cons.mpr ⟨xe174, List.forall_mem_cons.mpr ⟨xe165, List.forall_mem_cons.mpr ⟨xe166, List.forall_mem_cons.mpr ⟨xe167, List.forall_mem_cons.mpr ⟨xe168, fun _ h => absurd h List.not_mem_nil⟩⟩⟩⟩⟩⟩⟩⟩⟩⟩⟩⟩⟩⟩⟩
theorem xp50 : ∀ q ∈ xP50, x_all "NotationReaderModel" q.1 q.2 := List.forall_mem_cons.mpr ⟨xe163, List.forall_mem_cons.mpr ⟨xe172, fun _ h => absurd h List.not_mem_nil⟩⟩
theorem xp51 : ∀ q ∈ xP51, x_all "NotationReaderModel" q.1 q.2 := List.forall_mem_cons.mpr ⟨xe175, List.forall_mem_cons.mpr ⟨xe176, fun _ h => absurd h List.not_mem_nil⟩⟩
theorem xp52 : ∀ q ∈ xP52, x_all "java/util/ArrayList" q.1 q.2 := List.forall_mem_cons.mpr ⟨xe177, List.forall_mem_cons.mpr ⟨xe178, List.forall_mem_cons.mpr ⟨xe179, fun _ h => absurd h List.not_mem_nil⟩⟩⟩
theorem xp53 : ∀ q ∈ xP53, x_all "java/util/ArrayList" q.1 q.2 := List.forall_mem_cons.mpr ⟨xe178, List.forall_mem_cons.mpr ⟨xe180, List.forall_mem_cons.mpr ⟨xe181, fun _ h => absurd h List.not_mem_nil⟩⟩⟩
theorem xp54 : ∀ q ∈ xP54, x_all "java/util/ArrayList" q.1 q.2 := List.forall_mem_cons.mpr ⟨xe180, fun _ h => absurd h List.not_mem_nil⟩
theorem xp55 : ∀ q ∈ xP55, x_all "java/util/AbstractList" q.1 q.2 := List.forall_mem_cons.mpr ⟨xe182, List.forall_mem_cons.mpr ⟨xe183, fun _ h => absurd h List.not_mem_nil⟩⟩
theorem xp56 : ∀ q ∈ xP56, x_all "java/util/AbstractCollection" q.1 q.2 := List.forall_mem_cons.mpr ⟨xe184, fun _ h => absurd h List.not_mem_nil⟩
end
section
/-! methods: the code tables, the words of a method; made by wip/whole/gen/tables.py -/
def ab_ckb (M : ab_M) : Bool := (my_c M).all fun q => (match decode (my_b M) q.1 with | .ok r => decide (r = (q.2.1, q.2.2.1)) | .error _ => false) && ((ab_len q.2.1 == 0 || q.2.2.1 == ab_len q.2.1) && (match ab_off q.2.1 with | some off => decide ((q.1 : Int) + off = (q.2.2.2 : Int)) | none => true))
theorem ab_ck_of {M : ab_M} (h : ab_ckb M = true) : ab_ck M := by
  intro q hq
  have z := List.all_eq_true.mp h q hq
  simp only [Bool.and_eq_true, Bool.or_eq_true, beq_iff_eq] at z
  obtain ⟨z1, z2, z3⟩ := z
  refine ⟨?_, z2, fun off ho => ?_⟩
  · split at z1
    · rename_i r hr
      rw [hr, of_decide_eq_true z1]
    · cases z1
  · rw [ho] at z3
    exact of_decide_eq_true z3
theorem xk0 : ab_ck xM0 := ab_ck_of (by decide +kernel)
theorem xk1 : ab_ck xM1 := ab_ck_of (by decide +kernel)
theorem xk2 : ab_ck xM2 := ab_ck_of (by decide +kernel)
theorem xk3 : ab_ck xM3 := ab_ck_of (by decide +kernel)
theorem xk4 : ab_ck xM4 := ab_ck_of (by decide +kernel)
theorem xk5 : ab_ck xM5 := ab_ck_of (by decide +kernel)
theorem xk6 : ab_ck xM6 := ab_ck_of (by decide +kernel)
theorem xk7 : ab_ck xM7 := ab_ck_of (by decide +kernel)
theorem xk8 : ab_ck xM8 := ab_ck_of (by decide +kernel)
theorem xk9 : ab_ck xM9 := ab_ck_of (by decide +kernel)
theorem xk10 : ab_ck xM10 := ab_ck_of (by decide +kernel)
theorem xk11 : ab_ck xM11 := ab_ck_of (by decide +kernel)
theorem xk12 : ab_ck xM12 := ab_ck_of (by decide +kernel)
theorem xk13 : ab_ck xM13 := ab_ck_of (by decide +kernel)
theorem xk14 : ab_ck xM14 := ab_ck_of (by decide +kernel)
theorem xk15 : ab_ck xM15 := ab_ck_of (by decide +kernel)
theorem xk16 : ab_ck xM16 := ab_ck_of (by decide +kernel)
theorem xk17 : ab_ck xM17 := ab_ck_of (by decide +kernel)
theorem xk18 : ab_ck xM18 := ab_ck_of (by decide +kernel)
theorem xk19 : ab_ck xM19 := ab_ck_of (by decide +kernel)
theorem xk20 : ab_ck xM20 := ab_ck_of (by decide +kernel)
theorem xk21 : ab_ck xM21 := ab_ck_of (by decide +kernel)
theorem xk22 : ab_ck xM22 := ab_ck_of (by decide +kernel)
theorem xk23 : ab_ck xM23 := ab_ck_of (by decide +kernel)
theorem xk24 : ab_ck xM24 := ab_ck_of (by decide +kernel)
theorem xk25 : ab_ck xM25 := ab_ck_of (by decide +kernel)
theorem xk26 : ab_ck xM26 := ab_ck_of (by decide +kernel)
theorem xk27 : ab_ck xM27 := ab_ck_of (by decide +kernel)
theorem xk28 : ab_ck xM28 := ab_ck_of (by decide +kernel)
theorem xk29 : ab_ck xM29 := ab_ck_of (by decide +kernel)
theorem xk30 : ab_ck xM30 := ab_ck_of (by decide +kernel)
theorem xk31 : ab_ck xM31 := ab_ck_of (by decide +kernel)
theorem xk32 : ab_ck xM32 := ab_ck_of (by decide +kernel)
theorem xk33 : ab_ck xM33 := ab_ck_of (by decide +kernel)
theorem xk34 : ab_ck xM34 := ab_ck_of (by decide +kernel)
theorem xk35 : ab_ck xM35 := ab_ck_of (by decide +kernel)
theorem xk36 : ab_ck xM36 := ab_ck_of (by decide +kernel)
theorem xk37 : ab_ck xM37 := ab_ck_of (by decide +kernel)
theorem xk38 : ab_ck xM38 := ab_ck_of (by decide +kernel)
theorem xk39 : ab_ck xM39 := ab_ck_of (by decide +kernel)
theorem xk40 : ab_ck xM40 := ab_ck_of (by decide +kernel)
theorem xk41 : ab_ck xM41 := ab_ck_of (by decide +kernel)
theorem xk42 : ab_ck xM42 := ab_ck_of (by decide +kernel)
theorem xk43 : ab_ck xM43 := ab_ck_of (by decide +kernel)
theorem xk44 : ab_ck xM44 := ab_ck_of (by decide +kernel)
theorem xk45 : ab_ck xM45 := ab_ck_of (by decide +kernel)
theorem xk46 : ab_ck xM46 := ab_ck_of (by decide +kernel)
theorem xk47 : ab_ck xM47 := ab_ck_of (by decide +kernel)
theorem xk48 : ab_ck xM48 := ab_ck_of (by decide +kernel)
theorem xk49 : ab_ck xM49 := ab_ck_of (by decide +kernel)
theorem xk50 : ab_ck xM50 := ab_ck_of (by decide +kernel)
theorem xk51 : ab_ck xM51 := ab_ck_of (by decide +kernel)
theorem xk52 : ab_ck xM52 := ab_ck_of (by decide +kernel)
theorem xk53 : ab_ck xM53 := ab_ck_of (by decide +kernel)
theorem xk54 : ab_ck xM54 := ab_ck_of (by decide +kernel)
theorem xk55 : ab_ck xM55 := ab_ck_of (by decide +kernel)
theorem xk56 : ab_ck xM56 := ab_ck_of (by decide +kernel)
end
section
theorem xw1 : ab_mw x_Ts xM1 := ⟨Or.inr ⟨by decide, tm 141 (by decide +kernel)⟩, tm 0 (by decide +kernel), by decide +kernel, ⟨by decide +kernel, by decide +kernel⟩, by decide +kernel, (fun _ => tm 140 (by decide +kernel)), (fun h => absurd h (by decide))⟩
theorem xw2 : ab_mw x_Ts xM2 := ⟨Or.inr ⟨by decide, tm 221 (by decide +kernel)⟩, tm 0 (by decide +kernel), by decide +kernel, ⟨by decide +kernel, by decide +kernel⟩, by decide +kernel, (fun _ => tm 220 (by decide +kernel)), (fun h => absurd h (by decide))⟩
theorem xw3 : ab_mw x_Ts xM3 := ⟨Or.inr ⟨by decide, tm 245 (by decide +kernel)⟩, tm 0 (by decide +kernel), by decide +kernel, ⟨by decide +kernel, by decide +kernel⟩, by decide +kernel, (fun _ => tm 244 (by decide +kernel)), (fun h => absurd h (by decide))⟩
theorem xw4 : ab_mw x_Ts xM4 := ⟨Or.inr ⟨by decide, tm 541 (by decide +kernel)⟩, tm 0 (by decide +kernel), by decide +kernel, ⟨by decide +kernel, by decide +kernel⟩, by decide +kernel, (fun _ => tm 540 (by decide +kernel)), (fun h => absurd h (by decide))⟩
theorem xw5 : ab_mw x_Ts xM5 := ⟨Or.inr ⟨by decide, tm 570 (by decide +kernel)⟩, tm 0 (by decide +kernel), by decide +kernel, ⟨by decide +kernel, by decide +kernel⟩, by decide +kernel, (fun _ => tm 569 (by decide +kernel)), (fun h => absurd h (by decide))⟩
theorem xw6 : ab_mw x_Ts xM6 := ⟨Or.inr ⟨by decide, tm 594 (by decide +kernel)⟩, tm 0 (by decide +kernel), by decide +kernel, ⟨by decide +kernel, by decide +kernel⟩, by decide +kernel, (fun _ => tm 593 (by decide +kernel)), (fun h => absurd h (by decide))⟩
theorem xw7 : ab_mw x_Ts xM7 := ⟨Or.inr ⟨by decide, tm 602 (by decide +kernel)⟩, tm 0 (by decide +kernel), by decide +kernel, ⟨by decide +kernel, by decide +kernel⟩, by decide +kernel, (fun _ => tm 601 (by decide +kernel)), (fun h => absurd h (by decide))⟩
theorem xw8 : ab_mw x_Ts xM8 := ⟨Or.inr ⟨by decide, tm 611 (by decide +kernel)⟩, tm 0 (by decide +kernel), by decide +kernel, ⟨by decide +kernel, by decide +kernel⟩, by decide +kernel, (fun _ => tm 610 (by decide +kernel)), (fun h => absurd h (by decide))⟩
theorem xw9 : ab_mw x_Ts xM9 := ⟨Or.inr ⟨by decide, tm 623 (by decide +kernel)⟩, tm 0 (by decide +kernel), by decide +kernel, ⟨by decide +kernel, by decide +kernel⟩, by decide +kernel, (fun _ => tm 622 (by decide +kernel)), (fun h => absurd h (by decide))⟩
theorem xw10 : ab_mw x_Ts xM10 := ⟨Or.inl ⟨rfl, tm 33 (by decide +kernel)⟩, tm 1 (by decide +kernel), by decide +kernel, ⟨by decide +kernel, by decide +kernel⟩, by decide +kernel, (fun h => absurd h (by decide)), (fun _ => tm 32 (by decide +kernel))⟩
theorem xw11 : ab_mw x_Ts xM11 := ⟨Or.inl ⟨rfl, tm 146 (by decide +kernel)⟩, tm 1 (by decide +kernel), by decide +kernel, ⟨by decide +kernel, by decide +kernel⟩, by decide +kernel, (fun h => absurd h (by decide)), (fun _ => tm 144 (by decide +kernel))⟩
theorem xw12 : ab_mw x_Ts xM12 := ⟨Or.inl ⟨rfl, tm 226 (by decide +kernel)⟩, tm 1 (by decide +kernel), by decide +kernel, ⟨by decide +kernel, by decide +kernel⟩, by decide +kernel, (fun h => absurd h (by decide)), (fun _ => tm 224 (by decide +kernel))⟩
theorem xw13 : ab_mw x_Ts xM13 := ⟨Or.inl ⟨rfl, tm 250 (by decide +kernel)⟩, tm 1 (by decide +kernel), by decide +kernel, ⟨by decide +kernel, by decide +kernel⟩, by decide +kernel, (fun h => absurd h (by decide)), (fun _ => tm 248 (by decide +kernel))⟩
theorem xw14 : ab_mw x_Ts xM14 := ⟨Or.inl ⟨rfl, tm 138 (by decide +kernel)⟩, tm 1 (by decide +kernel), by decide +kernel, ⟨by decide +kernel, by decide +kernel⟩, by decide +kernel, (fun h => absurd h (by decide)), (fun _ => tm 136 (by decide +kernel))⟩
theorem xw15 : ab_mw x_Ts xM15 := ⟨Or.inl ⟨rfl, tm 545 (by decide +kernel)⟩, tm 1 (by decide +kernel), by decide +kernel, ⟨by decide +kernel, by decide +kernel⟩, by decide +kernel, (fun h => absurd h (by decide)), (fun _ => tm 543 (by decide +kernel))⟩
theorem xw16 : ab_mw x_Ts xM16 := ⟨Or.inl ⟨rfl, tm 575 (by decide +kernel)⟩, tm 1 (by decide +kernel), by decide +kernel, ⟨by decide +kernel, by decide +kernel⟩, by decide +kernel, (fun h => absurd h (by decide)), (fun _ => tm 573 (by decide +kernel))⟩
theorem xw17 : ab_mw x_Ts xM17 := ⟨Or.inl ⟨rfl, tm 598 (by decide +kernel)⟩, tm 1 (by decide +kernel), by decide +kernel, ⟨by decide +kernel, by decide +kernel⟩, by decide +kernel, (fun h => absurd h (by decide)), (fun _ => tm 596 (by decide +kernel))⟩
theorem xw18 : ab_mw x_Ts xM18 := ⟨Or.inl ⟨rfl, tm 606 (by decide +kernel)⟩, tm 1 (by decide +kernel), by decide +kernel, ⟨by decide +kernel, by decide +kernel⟩, by decide +kernel, (fun h => absurd h (by decide)), (fun _ => tm 604 (by decide +kernel))⟩
theorem xw19 : ab_mw x_Ts xM19 := ⟨Or.inl ⟨rfl, tm 615 (by decide +kernel)⟩, tm 1 (by decide +kernel), by decide +kernel, ⟨by decide +kernel, by decide +kernel⟩, by decide +kernel, (fun h => absurd h (by decide)), (fun _ => tm 613 (by decide +kernel))⟩
theorem xw20 : ab_mw x_Ts xM20 := ⟨Or.inl ⟨rfl, tm 627 (by decide +kernel)⟩, tm 1 (by decide +kernel), by decide +kernel, ⟨by decide +kernel, by decide +kernel⟩, by decide +kernel, (fun h => absurd h (by decide)), (fun _ => tm 625 (by decide +kernel))⟩
theorem xw21 : ab_mw x_Ts xM21 := ⟨Or.inl ⟨rfl, tm 549 (by decide +kernel)⟩, tm 1 (by decide +kernel), by decide +kernel, ⟨by decide +kernel, by decide +kernel⟩, by decide +kernel, (fun h => absurd h (by decide)), (fun _ => tm 548 (by decide +kernel))⟩
theorem xw22 : ab_mw x_Ts xM22 := ⟨Or.inl ⟨rfl, tm 381 (by decide +kernel)⟩, tm 1 (by decide +kernel), by decide +kernel, ⟨by decide +kernel, by decide +kernel⟩, by decide +kernel, (fun h => absurd h (by decide)), (fun _ => tm 380 (by decide +kernel))⟩
theorem xw23 : ab_mw x_Ts xM23 := ⟨Or.inl ⟨rfl, tm 518 (by decide +kernel)⟩, tm 1 (by decide +kernel), by decide +kernel, ⟨by decide +kernel, by decide +kernel⟩, by decide +kernel, (fun _ => tm 517 (by decide +kernel)), (fun h => absurd h (by decide))⟩
theorem xw24 : ab_mw x_Ts xM24 := ⟨Or.inl ⟨rfl, tm 389 (by decide +kernel)⟩, tm 1 (by decide +kernel), by decide +kernel, ⟨by decide +kernel, by decide +kernel⟩, by decide +kernel, (fun h => absurd h (by decide)), (fun _ => tm 388 (by decide +kernel))⟩
theorem xw25 : ab_mw x_Ts xM25 := ⟨Or.inl ⟨rfl, tm 41 (by decide +kernel)⟩, tm 2 (by decide +kernel), by decide +kernel, ⟨by decide +kernel, by decide +kernel⟩, by decide +kernel, (fun h => absurd h (by decide)), (fun _ => tm 40 (by decide +kernel))⟩
theorem xw26 : ab_mw x_Ts xM26 := ⟨Or.inl ⟨rfl, tm 218 (by decide +kernel)⟩, tm 2 (by decide +kernel), by decide +kernel, ⟨by decide +kernel, by decide +kernel⟩, by decide +kernel, (fun h => absurd h (by decide)), (fun _ => tm 216 (by decide +kernel))⟩
theorem xw27 : ab_mw x_Ts xM27 := ⟨Or.inl ⟨rfl, tm 258 (by decide +kernel)⟩, tm 2 (by decide +kernel), by decide +kernel, ⟨by decide +kernel, by decide +kernel⟩, by decide +kernel, (fun h => absurd h (by decide)), (fun _ => tm 256 (by decide +kernel))⟩
theorem xw28 : ab_mw x_Ts xM28 := ⟨Or.inl ⟨rfl, tm 262 (by decide +kernel)⟩, tm 2 (by decide +kernel), by decide +kernel, ⟨by decide +kernel, by decide +kernel⟩, by decide +kernel, (fun h => absurd h (by decide)), (fun _ => tm 260 (by decide +kernel))⟩
theorem xw29 : ab_mw x_Ts xM29 := ⟨Or.inl ⟨rfl, tm 266 (by decide +kernel)⟩, tm 2 (by decide +kernel), by decide +kernel, ⟨by decide +kernel, by decide +kernel⟩, by decide +kernel, (fun h => absurd h (by decide)), (fun _ => tm 265 (by decide +kernel))⟩
theorem xw30 : ab_mw x_Ts xM30 := ⟨Or.inl ⟨rfl, tm 270 (by decide +kernel)⟩, tm 2 (by decide +kernel), by decide +kernel, ⟨by decide +kernel, by decide +kernel⟩, by decide +kernel, (fun h => absurd h (by decide)), (fun _ => tm 269 (by decide +kernel))⟩
theorem xw31 : ab_mw x_Ts xM31 := ⟨Or.inl ⟨rfl, tm 47 (by decide +kernel)⟩, tm 3 (by decide +kernel), by decide +kernel, ⟨by decide +kernel, by decide +kernel⟩, by decide +kernel, (fun h => absurd h (by decide)), (fun _ => tm 46 (by decide +kernel))⟩
theorem xw32 : ab_mw x_Ts xM32 := ⟨Or.inl ⟨rfl, tm 277 (by decide +kernel)⟩, tm 3 (by decide +kernel), by decide +kernel, ⟨by decide +kernel, by decide +kernel⟩, by decide +kernel, (fun h => absurd h (by decide)), (fun _ => tm 275 (by decide +kernel))⟩
theorem xw33 : ab_mw x_Ts xM33 := ⟨Or.inl ⟨rfl, tm 633 (by decide +kernel)⟩, tm 7 (by decide +kernel), by decide +kernel, ⟨by decide +kernel, by decide +kernel⟩, by decide +kernel, (fun h => absurd h (by decide)), (fun _ => tm 632 (by decide +kernel))⟩
theorem xw34 : ab_mw x_Ts xM34 := ⟨Or.inl ⟨rfl, tm 753 (by decide +kernel)⟩, tm 7 (by decide +kernel), by decide +kernel, ⟨by decide +kernel, by decide +kernel⟩, by decide +kernel, (fun h => absurd h (by decide)), (fun _ => tm 751 (by decide +kernel))⟩
theorem xw35 : ab_mw x_Ts xM35 := ⟨Or.inl ⟨rfl, tm 761 (by decide +kernel)⟩, tm 7 (by decide +kernel), by decide +kernel, ⟨by decide +kernel, by decide +kernel⟩, by decide +kernel, (fun h => absurd h (by decide)), (fun _ => tm 760 (by decide +kernel))⟩
theorem xw36 : ab_mw x_Ts xM36 := ⟨Or.inl ⟨rfl, tm 757 (by decide +kernel)⟩, tm 7 (by decide +kernel), by decide +kernel, ⟨by decide +kernel, by decide +kernel⟩, by decide +kernel, (fun h => absurd h (by decide)), (fun _ => tm 755 (by decide +kernel))⟩
theorem xw37 : ab_mw x_Ts xM37 := ⟨Or.inl ⟨rfl, tm 765 (by decide +kernel)⟩, tm 7 (by decide +kernel), by decide +kernel, ⟨by decide +kernel, by decide +kernel⟩, by decide +kernel, (fun h => absurd h (by decide)), (fun _ => tm 763 (by decide +kernel))⟩
theorem xw38 : ab_mw x_Ts xM38 := ⟨Or.inr ⟨by decide, tm 769 (by decide +kernel)⟩, tm 7 (by decide +kernel), by decide +kernel, ⟨by decide +kernel, by decide +kernel⟩, by decide +kernel, (fun h => absurd h (by decide)), (fun _ => tm 767 (by decide +kernel))⟩
theorem xw39 : ab_mw x_Ts xM39 := ⟨Or.inl ⟨rfl, tm 1146 (by decide +kernel)⟩, tm 7 (by decide +kernel), by decide +kernel, ⟨by decide +kernel, by decide +kernel⟩, by decide +kernel, (fun h => absurd h (by decide)), (fun _ => tm 1144 (by decide +kernel))⟩
theorem xw40 : ab_mw x_Ts xM40 := ⟨Or.inl ⟨rfl, tm 1150 (by decide +kernel)⟩, tm 7 (by decide +kernel), by decide +kernel, ⟨by decide +kernel, by decide +kernel⟩, by decide +kernel, (fun h => absurd h (by decide)), (fun _ => tm 1148 (by decide +kernel))⟩
theorem xw41 : ab_mw x_Ts xM41 := ⟨Or.inl ⟨rfl, tm 1162 (by decide +kernel)⟩, tm 7 (by decide +kernel), by decide +kernel, ⟨by decide +kernel, by decide +kernel⟩, by decide +kernel, (fun h => absurd h (by decide)), (fun _ => tm 1160 (by decide +kernel))⟩
theorem xw42 : ab_mw x_Ts xM42 := ⟨Or.inl ⟨rfl, tm 1166 (by decide +kernel)⟩, tm 7 (by decide +kernel), by decide +kernel, ⟨by decide +kernel, by decide +kernel⟩, by decide +kernel, (fun h => absurd h (by decide)), (fun _ => tm 1164 (by decide +kernel))⟩
theorem xw43 : ab_mw x_Ts xM43 := ⟨Or.inl ⟨rfl, tm 1170 (by decide +kernel)⟩, tm 7 (by decide +kernel), by decide +kernel, ⟨by decide +kernel, by decide +kernel⟩, by decide +kernel, (fun h => absurd h (by decide)), (fun _ => tm 1168 (by decide +kernel))⟩
theorem xw44 : ab_mw x_Ts xM44 := ⟨Or.inl ⟨rfl, tm 1174 (by decide +kernel)⟩, tm 7 (by decide +kernel), by decide +kernel, ⟨by decide +kernel, by decide +kernel⟩, by decide +kernel, (fun h => absurd h (by decide)), (fun _ => tm 1172 (by decide +kernel))⟩
theorem xw45 : ab_mw x_Ts xM45 := ⟨Or.inl ⟨rfl, tm 1178 (by decide +kernel)⟩, tm 7 (by decide +kernel), by decide +kernel, ⟨by decide +kernel, by decide +kernel⟩, by decide +kernel, (fun h => absurd h (by decide)), (fun _ => tm 1176 (by decide +kernel))⟩
theorem xw46 : ab_mw x_Ts xM46 := ⟨Or.inl ⟨rfl, tm 1154 (by decide +kernel)⟩, tm 7 (by decide +kernel), by decide +kernel, ⟨by decide +kernel, by decide +kernel⟩, by decide +kernel, (fun h => absurd h (by decide)), (fun _ => tm 1153 (by decide +kernel))⟩
theorem xw47 : ab_mw x_Ts xM47 := ⟨Or.inl ⟨rfl, tm 774 (by decide +kernel)⟩, tm 7 (by decide +kernel), by decide +kernel, ⟨by decide +kernel, by decide +kernel⟩, by decide +kernel, (fun h => absurd h (by decide)), (fun _ => tm 773 (by decide +kernel))⟩
theorem xw48 : ab_mw x_Ts xM48 := ⟨Or.inl ⟨rfl, tm 778 (by decide +kernel)⟩, tm 7 (by decide +kernel), by decide +kernel, ⟨by decide +kernel, by decide +kernel⟩, by decide +kernel, (fun h => absurd h (by decide)), (fun _ => tm 777 (by decide +kernel))⟩
theorem xw49 : ab_mw x_Ts xM49 := ⟨Or.inl ⟨rfl, tm 1047 (by decide +kernel)⟩, tm 7 (by decide +kernel), by decide +kernel, ⟨by decide +kernel, by decide +kernel⟩, by decide +kernel, (fun h => absurd h (by decide)), (fun _ => tm 1046 (by decide +kernel))⟩
theorem xw50 : ab_mw x_Ts xM50 := ⟨Or.inl ⟨rfl, tm 1051 (by decide +kernel)⟩, tm 7 (by decide +kernel), by decide +kernel, ⟨by decide +kernel, by decide +kernel⟩, by decide +kernel, (fun h => absurd h (by decide)), (fun _ => tm 1050 (by decide +kernel))⟩
theorem xw51 : ab_mw x_Ts xM51 := ⟨Or.inl ⟨rfl, tm 1100 (by decide +kernel)⟩, tm 7 (by decide +kernel), by decide +kernel, ⟨by decide +kernel, by decide +kernel⟩, by decide +kernel, (fun h => absurd h (by decide)), (fun _ => tm 1099 (by decide +kernel))⟩
theorem xw52 : ab_mw x_Ts xM52 := ⟨Or.inl ⟨rfl, tm 103 (by decide +kernel)⟩, tm 6 (by decide +kernel), by decide +kernel, ⟨by decide +kernel, by decide +kernel⟩, by decide +kernel, (fun h => absurd h (by decide)), (fun _ => tm 102 (by decide +kernel))⟩
theorem xw53 : ab_mw x_Ts xM53 := ⟨Or.inl ⟨rfl, tm 254 (by decide +kernel)⟩, tm 6 (by decide +kernel), by decide +kernel, ⟨by decide +kernel, by decide +kernel⟩, by decide +kernel, (fun h => absurd h (by decide)), (fun _ => tm 252 (by decide +kernel))⟩
theorem xw54 : ab_mw x_Ts xM54 := ⟨Or.inl ⟨rfl, tm 510 (by decide +kernel)⟩, tm 6 (by decide +kernel), by decide +kernel, ⟨by decide +kernel, by decide +kernel⟩, by decide +kernel, (fun h => absurd h (by decide)), (fun _ => tm 508 (by decide +kernel))⟩
theorem xw55 : ab_mw x_Ts xM55 := ⟨Or.inl ⟨rfl, tm 106 (by decide +kernel)⟩, tm 5 (by decide +kernel), by decide +kernel, ⟨by decide +kernel, by decide +kernel⟩, by decide +kernel, (fun h => absurd h (by decide)), (fun _ => tm 105 (by decide +kernel))⟩
theorem xw56 : ab_mw x_Ts xM56 := ⟨Or.inl ⟨rfl, tm 109 (by decide +kernel)⟩, tm 4 (by decide +kernel), by decide +kernel, ⟨by decide +kernel, by decide +kernel⟩, by decide +kernel, (fun h => absurd h (by decide)), (fun _ => tm 108 (by decide +kernel))⟩
end
section
/-! what is fixed of the program; made by wip/whole/gen/tables.py -/
theorem x_ec {α : Type} {P : Nat → α → Prop} {a : α} {l : List α} (h0 : P 0 a) (ht : ∀ i r, l[i]? = some r → P (i + 1) r) : ∀ i r, (a :: l)[i]? = some r → P i r := by
  intro i r h
  cases i with
  | zero => cases h; exact h0
  | succ i => exact ht i r (by simpa using h)
theorem x_en {α : Type} {P : Nat → α → Prop} : ∀ i r, ([] : List α)[i]? = some r → P i r := by
  intro i r h
  simp at h
def x_pure (v : Value) : Bool := match v with
  | .ref _ => false
  | .float _ => false
  | _ => true
theorem x_pure_ok {v : Value} (h : x_pure v = true) (B : Nat) (od : Nat → Nat) : ab_v B od v = v := by
  cases v <;> first | rfl | (simp [x_pure] at h; done)
def x_csb (T : u_T) (Y : Nat → FieldType) (V : List Value) (N : Nat) : Bool := (List.range N).all (fun k => decide (parseFieldDescriptor (T k).2.2.1 = some (Y k)) && decide (defaultValue (Y k) = vp_V V k) && (List.range N).all (fun b => decide (k = b) || decide ((T k).2.1 ≠ (T b).2.1))) && decide (V.length = N) && V.all x_pure
theorem x_cs_of {T : u_T} {Y : Nat → FieldType} {V : List Value} {N : Nat} (h : x_csb T Y V N = true) : (∀ k, k < N → parseFieldDescriptor (T k).2.2.1 = some (Y k)) ∧ (∀ a, a < N → ∀ b, b < N → a ≠ b → (T a).2.1 ≠ (T b).2.1) ∧ (∀ j, j < N → defaultValue (Y j) = vp_V V j) ∧ V.length = N ∧ (∀ v ∈ V, ∀ (B : Nat) (od : Nat → Nat), ab_v B od v = v) := by
  simp only [x_csb, Bool.and_eq_true, List.all_eq_true, List.mem_range, decide_eq_true_eq, Bool.or_eq_true] at h
  obtain ⟨⟨h1, h2⟩, h3⟩ := h
  refine ⟨fun k hk => (h1 k hk).1.1, fun a ha b hb hab => ?_, fun j hj => (h1 j hj).1.2, h2, fun v hv B od => x_pure_ok (h3 v hv) B od⟩
  rcases (h1 a ha).2 b hb with q | q
  · exact absurd q hab
  · exact q
theorem x_us {L : List Jvm.Cond} (is : List Nat) (h : (L = is.filterMap (fun i => tables_1[i]?) ∧ L.all x_g = true)) : ∀ w ∈ L, w ∈ x_Ts := by
  intro w hw
  have h2 := List.all_eq_true.mp h.2 w hw
  rw [h.1] at hw
  obtain ⟨i, -, hi⟩ := List.mem_filterMap.mp hw
  exact tm i ⟨hi, h2⟩
theorem xq0 : x_csb xT0 xY0 [.null, .null, .int 0] 3 = true := by decide +kernel
theorem xu0 : ∀ w ∈ u_ws "NotationReader" xT0 3, w ∈ x_Ts := x_us [128, 130, 132] (by decide +kernel)
theorem xq1 : x_csb xT1 xY1 [.null, .null, .int 0, .int 0, .null, .null] 6 = true := by decide +kernel
theorem xu1 : ∀ w ∈ u_ws "NotationReader$Tape" xT1 6, w ∈ x_Ts := x_us [86, 88, 90, 92, 94, 96] (by decide +kernel)
theorem xq2 : x_csb xT2 xY2 [.int 0, .int 0, .int 0, .int 0, .int 0, .long 0] 6 = true := by decide +kernel
theorem xu2 : ∀ w ∈ u_ws "NotationReader$Token" xT2 6, w ∈ x_Ts := x_us [63, 65, 67, 69, 71, 73] (by decide +kernel)
theorem xq3 : x_csb xT3 xY3 [.int 0, .null, .int 0, .int 0, .null, .null, .int 0, .int 0, .int 0, .long 0, .null, .int 0, .int 0, .int 0, .int 0, .null, .null, .null, .null, .null, .null] 21 = true := by decide +kernel
theorem xu3 : ∀ w ∈ u_ws "NotationReaderModel" xT3 21, w ∈ x_Ts := x_us [706, 708, 710, 712, 714, 716, 718, 720, 722, 724, 726, 728, 730, 732, 734, 736, 738, 740, 742, 744, 746] (by decide +kernel)
theorem xq4 : x_csb xT4 xY4 [.null, .int 0, .int 0] 3 = true := by decide +kernel
theorem xu4 : ∀ w ∈ u_ws "java/util/ArrayList" xT4 3, w ∈ x_Ts := x_us [118, 120, 122] (by decide +kernel)
theorem xq5 : x_csb xT5 xY5 [] 0 = true := by decide +kernel
theorem xu5 : ∀ w ∈ u_ws "java/lang/IndexOutOfBoundsException" xT5 0, w ∈ x_Ts := x_us [] (by decide +kernel)
theorem xq6 : x_csb xT6 xY6 [] 0 = true := by decide +kernel
theorem xu6 : ∀ w ∈ u_ws "java/lang/IllegalArgumentException" xT6 0, w ∈ x_Ts := x_us [] (by decide +kernel)
theorem xq7 : x_csb xT7 xY7 [] 0 = true := by decide +kernel
theorem xu7 : ∀ w ∈ u_ws "java/lang/UnsupportedOperationException" xT7 0, w ∈ x_Ts := x_us [] (by decide +kernel)
theorem xq8 : x_csb xT8 xY8 [] 0 = true := by decide +kernel
theorem xu8 : ∀ w ∈ u_ws "java/util/NoSuchElementException" xT8 0, w ∈ x_Ts := x_us [] (by decide +kernel)
theorem xq9 : x_csb xT9 xY9 [] 0 = true := by decide +kernel
theorem xu9 : ∀ w ∈ u_ws "java/lang/String" xT9 0, w ∈ x_Ts := x_us [] (by decide +kernel)
theorem x_CS : ab_CS x_cl x_ct x_cd := x_ec (x_cs_of xq0) (x_ec (x_cs_of xq1) (x_ec (x_cs_of xq2) (x_ec (x_cs_of xq3) (x_ec (x_cs_of xq4) (x_ec (x_cs_of xq5) (x_ec (x_cs_of xq6) (x_ec (x_cs_of xq7) (x_ec (x_cs_of xq8) (x_ec (x_cs_of xq9) (x_en))))))))))
theorem x_US : ∀ (ci : Nat) (r : vw_C), x_cl[ci]? = some r → ∀ w ∈ u_ws r.1 r.2.1 r.2.2, w ∈ x_Ts := x_ec (xu0) (x_ec (xu1) (x_ec (xu2) (x_ec (xu3) (x_ec (xu4) (x_ec (xu5) (x_ec (xu6) (x_ec (xu7) (x_ec (xu8) (x_ec (xu9) (x_en))))))))))
theorem x_MW : ∀ (j : Nat) (N : ab_M), x_mt[j]? = some N → j ≠ 0 → ab_mw x_Ts N := x_ec (fun h => absurd rfl h) (x_ec (fun _ => xw1) (x_ec (fun _ => xw2) (x_ec (fun _ => xw3) (x_ec (fun _ => xw4) (x_ec (fun _ => xw5) (x_ec (fun _ => xw6) (x_ec (fun _ => xw7) (x_ec (fun _ => xw8) (x_ec (fun _ => xw9) (x_ec (fun _ => xw10) (x_ec (fun _ => xw11) (x_ec (fun _ => xw12) (x_ec (fun _ => xw13) (x_ec (fun _ => xw14) (x_ec (fun _ => xw15) (x_ec (fun _ => xw16) (x_ec (fun _ => xw17) (x_ec (fun _ => xw18) (x_ec (fun _ => xw19) (x_ec (fun _ => xw20) (x_ec (fun _ => xw21) (x_ec (fun _ => xw22) (x_ec (fun _ => xw23) (x_ec (fun _ => xw24) (x_ec (fun _ => xw25) (x_ec (fun _ => xw26) (x_ec (fun _ => xw27) (x_ec (fun _ => xw28) (x_ec (fun _ => xw29) (x_ec (fun _ => xw30) (x_ec (fun _ => xw31) (x_ec (fun _ => xw32) (x_ec (fun _ => xw33) (x_ec (fun _ => xw34) (x_ec (fun _ => xw35) (x_ec (fun _ => xw36) (x_ec (fun _ => xw37) (x_ec (fun _ => xw38) (x_ec (fun _ => xw39) (x_ec (fun _ => xw40) (x_ec (fun _ => xw41) (x_ec (fun _ => xw42) (x_ec (fun _ => xw43) (x_ec (fun _ => xw44) (x_ec (fun _ => xw45) (x_ec (fun _ => xw46) (x_ec (fun _ => xw47) (x_ec (fun _ => xw48) (x_ec (fun _ => xw49) (x_ec (fun _ => xw50) (x_ec (fun _ => xw51) (x_ec (fun _ => xw52) (x_ec (fun _ => xw53) (x_ec (fun _ => xw54) (x_ec (fun _ => xw55) (x_ec (fun _ => xw56) (x_en)))))))))))))))))))))))))))))))))))))))))))))))))))))))))
theorem x_MS : ∀ M ∈ x_mt, ab_ck M ∧ ∀ x n, my_p M x = some n → x_all (my_y M).cls x n := List.forall_mem_cons.mpr ⟨⟨xk0, fun x n h => x_pool xp0 h⟩, List.forall_mem_cons.mpr ⟨⟨xk1, fun x n h => x_pool xp1 h⟩, List.forall_mem_cons.mpr ⟨⟨xk2, fun x n h => x_pool xp2 h⟩, List.forall_mem_cons.mpr ⟨⟨xk3, fun x n h => x_pool xp3 h⟩, List.forall_mem_cons.mpr ⟨⟨xk4, fun x n h => x_pool xp4 h⟩, List.forall_mem_cons.mpr ⟨⟨xk5, fun x n h => x_pool xp5 h⟩, List.forall_mem_cons.mpr ⟨⟨xk6, fun x n h => x_pool xp6 h⟩, List.forall_mem_cons.mpr ⟨⟨xk7, fun x n h => x_pool xp7 h⟩, List.forall_mem_cons.mpr ⟨⟨xk8, fun x n h => x_pool xp8 h⟩, List.forall_mem_cons.mpr ⟨⟨xk9, fun x n h => x_pool xp9 h⟩, List.forall_mem_cons.mpr ⟨⟨xk10, fun x n h => x_pool xp10 h⟩, List.forall_mem_cons.mpr ⟨⟨xk11, fun x n h => x_pool xp11 h⟩, List.forall_mem_cons.mpr ⟨⟨xk12, fun x n h => x_pool xp12 h⟩, List.forall_mem_cons.mpr ⟨⟨xk13, fun x n h => x_pool xp13 h⟩, List.forall_mem_cons.mpr ⟨⟨xk14, fun x n h => x_pool xp14 h⟩, List.forall_mem_cons.mpr ⟨⟨xk15, fun x n h => x_pool xp15 h⟩, List.forall_mem_cons.mpr ⟨⟨xk16, fun x n h => x_pool xp16 h⟩, List.forall_mem_cons.mpr ⟨⟨xk17, fun x n h => x_pool xp17 h⟩, List.forall_mem_cons.mpr ⟨⟨xk18, fun x n h => x_pool xp18 h⟩, List.forall_mem_cons.mpr ⟨⟨xk19, fun x n h => x_pool xp19 h⟩, List.forall_mem_cons.mpr ⟨⟨xk20, fun x n h => x_pool xp20 h⟩, List.forall_mem_cons.mpr ⟨⟨xk21, fun x n h => x_pool xp21 h⟩, List.forall_mem_cons.mpr ⟨⟨xk22, fun x n h => x_pool xp22 h⟩, List.forall_mem_cons.mpr ⟨⟨xk23, fun x n h => x_pool xp23 h⟩, List.forall_mem_cons.mpr ⟨⟨xk24, fun x n h => x_pool xp24 h⟩, List.forall_mem_cons.mpr ⟨⟨xk25, fun x n h => x_pool xp25 h⟩, List.forall_mem_cons.mpr ⟨⟨xk26, fun x n h => x_pool xp26 h⟩, List.forall_mem_cons.mpr ⟨⟨xk27, fun x n h => x_pool xp27 h⟩, List.forall_mem_cons.mpr ⟨⟨xk28, fun x n h => x_pool xp28 h⟩, List.forall_mem_cons.mpr ⟨⟨xk29, fun x n h => x_pool xp29 h⟩, List.forall_mem_cons.mpr ⟨⟨xk30, fun x n h => x_pool xp30 h⟩, List.forall_mem_cons.mpr ⟨⟨xk31, fun x n h => x_pool xp31 h⟩, List.forall_mem_cons.mpr ⟨⟨xk32, fun x n h => x_pool xp32 h⟩, List.forall_mem_cons.mpr ⟨⟨xk33, fun x n h => x_pool xp33 h⟩, List.forall_mem_cons.mpr ⟨⟨xk34, fun x n h => x_pool xp34 h⟩, List.forall_mem_cons.mpr ⟨⟨xk35, fun x n h => x_pool xp35 h⟩, List.forall_mem_cons.mpr ⟨⟨xk36, fun x n h => x_pool xp36 h⟩, List.forall_mem_cons.mpr ⟨⟨xk37, fun x n h => x_pool xp37 h⟩, List.forall_mem_cons.mpr ⟨⟨xk38, fun x n h => x_pool xp38 h⟩, List.forall_mem_cons.mpr ⟨⟨xk39, fun x n h => x_pool xp39 h⟩, List.forall_mem_cons.mpr ⟨⟨xk40, fun x n h => x_pool xp40 h⟩, List.forall_mem_cons.mpr ⟨⟨xk41, fun x n h => x_pool xp41 h⟩, List.forall_mem_cons.mpr ⟨⟨xk42, fun x n h => x_pool xp42 h⟩, List.forall_mem_cons.mpr ⟨⟨xk43, fun x n h => x_pool xp43 h⟩, List.forall_mem_cons.mpr ⟨⟨xk44, fun x n h => x_pool xp44 h⟩, List.forall_mem_cons.mpr ⟨⟨xk45, fun x n h => x_pool xp45 h⟩, List.forall_mem_cons.mpr ⟨⟨xk46, fun x n h => x_pool xp46 h⟩, List.forall_mem_cons.mpr ⟨⟨xk47, fun x n h => x_pool xp47 h⟩, List.forall_mem_cons.mpr ⟨⟨xk48, fun x n h => x_pool xp48 h⟩, List.forall_mem_cons.mpr ⟨⟨xk49, fun x n h => x_pool xp49 h⟩, List.forall_mem_cons.mpr ⟨⟨xk50, fun x n h => x_pool xp50 h⟩, List.forall_mem_cons.mpr ⟨⟨xk51, fun x n h => x_pool xp51 h⟩, List.forall_mem_cons.mpr ⟨⟨xk52, fun x n h => x_pool xp52 h⟩, List.forall_mem_cons.mpr ⟨⟨xk53, fun x n h => x_pool xp53 h⟩, List.forall_mem_cons.mpr ⟨⟨xk54, fun x n h => x_pool xp54 h⟩, List.forall_mem_cons.mpr ⟨⟨xk55, fun x n h => x_pool xp55 h⟩, List.forall_mem_cons.mpr ⟨⟨xk56, fun x n h => x_pool xp56 h⟩, fun _ h => absurd h List.not_mem_nil⟩⟩⟩⟩⟩⟩⟩⟩⟩⟩⟩⟩⟩⟩⟩⟩⟩⟩⟩⟩⟩⟩⟩⟩⟩⟩⟩⟩⟩⟩⟩⟩⟩⟩⟩⟩⟩⟩⟩⟩⟩⟩⟩⟩⟩⟩⟩⟩⟩⟩⟩⟩⟩⟩⟩⟩⟩
theorem x_GOOD : ∀ w ∈ x_Ts, ab_good w := fun w hw => by
  have h := (List.mem_filter.mp hw).2
  simp only [x_g, Bool.and_eq_true] at h
  exact h
theorem x_SF : ab_SF x_cl x_ct x_cd x_aty x_sb x_Ts x_mt := by
  refine ⟨fun t ci h => ?_, x_CS, x_GOOD, x_US, x_MW, fun M hM => ⟨(x_MS M hM).1, fun x n h => ?_⟩⟩
  · simp only [x_sb, List.mem_singleton, Prod.mk.injEq] at h
    obtain ⟨rfl, rfl⟩ := h
    exact ⟨_, _, rfl, rfl, Or.inl rfl⟩
  · have z := (x_MS M hM).2 x n h
    exact ⟨z.1, z.2.1, z.2.2.1, z.2.2.2.1⟩
theorem x_P9 : ∀ M ∈ x_mt, ∀ x n, my_p M x = some n → ab_p9 x_cl x_Ts (my_y M).cls x n := fun M hM x n h => ((x_MS M hM).2 x n h).2.2.2.2.1
end
section
/-! what holds as the law begins; made by wip/whole/gen/tables.py -/
abbrev x_nar : Jvm.Cond := Jvm.Cond.and given_1 narrow_1
def x_od (b : Nat) (s : State) (w : Nat) : Nat := match (x_trms[w]?).bind (fun t => t.eval #[Value.ref b] s none [] s) with
  | some (.ref a) => a
  | _ => b
theorem x_exb : (List.range 59).all (fun w => w == 0 || (flatC x_nar).contains (.exactly ((x_trms[w]?).getD (.arg 0)) (x_nm w))) = true := by decide +kernel
theorem x_ex {b : Nat} {s : State} (h : x_nar.before #[Value.ref b] s = true) {w : Nat} {t : Term} (hw : x_trms[w]? = some t) (h0 : w ≠ 0) : (Cond.exactly t (x_nm w)).before #[Value.ref b] s = true := by
  have hl : w < 59 := (List.getElem?_eq_some_iff.mp hw).1
  have z := List.all_eq_true.mp x_exb w (List.mem_range.mpr hl)
  simp only [Bool.or_eq_true, beq_iff_eq, List.contains_iff_mem, hw, Option.getD_some] at z
  rcases z with z | z
  · exact absurd z h0
  · exact flat_of_before _ h _ z
theorem x_odw {b : Nat} {s : State} (h : x_nar.before #[Value.ref b] s = true) {w : Nat} {t : Term} (hw : x_trms[w]? = some t) (h0 : w ≠ 0) : t.eval #[Value.ref b] s none [] s = some (.ref (x_od b s w)) ∧ x_od b s w < s.heap.size ∧ va_O (x_nm w) (x_od b s w) (fun q => s.heap.size ≤ q) s s.heap := by
  have hex := x_ex h hw h0
  obtain ⟨a, c, cell, k, q1, q2, q3, q4, q5, q6, -⟩ := Cond.exactly_spec (args := #[Value.ref b]) (first := s) (o := none) (s := s) (idx := []) hex
  have e : x_od b s w = a := by
    unfold x_od
    rw [hw]
    simp only [Option.bind_some, q1]
  rw [e]
  exact ⟨q1, (Array.getElem?_eq_some_iff.mp q3).1, va_Oof hex q1 (fun a ha hn => by omega)⟩
theorem x_od0 (b : Nat) (s : State) : x_od b s 0 = b := rfl
theorem x_hod {b : Nat} {s : State} (h : x_nar.before #[Value.ref b] s = true) (hb : b < s.heap.size) (w : Nat) : x_od b s w < s.heap.size := by
  by_cases h0 : w = 0
  · subst h0; rw [x_od0]; exact hb
  · cases hw : x_trms[w]? with
    | none =>
      have e : x_od b s w = b := by unfold x_od; rw [hw]; rfl
      rw [e]; exact hb
    | some t => exact (x_odw h hw h0).2.1
theorem x_IN : ∀ (ci : Nat) (r : vw_C), x_cl[ci]? = some r → ∃ n, Cond.instantiable r.1 n ∈ x_Ts := x_ec (⟨3, tm 30 (by decide +kernel)⟩) (x_ec (⟨6, tm 38 (by decide +kernel)⟩) (x_ec (⟨6, tm 44 (by decide +kernel)⟩) (x_ec (⟨21, tm 630 (by decide +kernel)⟩) (x_ec (⟨3, tm 100 (by decide +kernel)⟩) (x_ec (⟨6, tm 148 (by decide +kernel)⟩) (x_ec (⟨6, tm 228 (by decide +kernel)⟩) (x_ec (⟨6, tm 391 (by decide +kernel)⟩) (x_ec (⟨6, tm 577 (by decide +kernel)⟩) (x_ec (⟨4, tm 898 (by decide +kernel)⟩) (x_en))))))))))
theorem x_Tsok {b : Nat} {s : State} (hts : ∀ w ∈ lw_tbl, w.before #[Value.ref b] s = true) : ∀ w ∈ x_Ts, va_Nw w s := fun w hw => va_Nw.of (x_GOOD w hw).1 (hts w (List.mem_filter.mp hw).1)
theorem x_KC {b : Nat} {s : State} (hts : ∀ w ∈ lw_tbl, w.before #[Value.ref b] s = true) : ∃ D : va_G, ab_KC D x_cl s := by
  have hT : ∀ (A : Array Value), ∀ w ∈ x_Ts, w.before A s = true := fun A w hw => va_Nw.use (x_GOOD w hw).1 (x_Tsok hts w hw)
  have h1 : ∀ (ci : Nat), ∃ (cC : ClassId) (iS : Nat → Nat), ∀ (r : vw_C), x_cl[ci]? = some r → u_Kn s r.1 r.2.1 r.2.2 cC iS := by
    intro ci
    cases hr : x_cl[ci]? with
    | none => exact ⟨0, fun _ => 0, fun r h => by cases h⟩
    | some r =>
      obtain ⟨n, hn⟩ := x_IN ci r hr
      obtain ⟨cC, iS, h⟩ := u_known (hT #[]) (x_US ci r hr) (hT #[] _ hn)
      exact ⟨cC, iS, fun r' h' => by cases h'; exact h⟩
  refine ⟨(fun ci => (h1 ci).choose, fun ci => (h1 ci).choose_spec.choose), fun ci r hr => ⟨(h1 ci).choose_spec.choose_spec r hr, fun A w hw => hT A w (x_US ci r hr w hw)⟩⟩
theorem x_prim {b : Nat} {s : State} (hts : ∀ w ∈ lw_tbl, w.before #[Value.ref b] s = true) {ty : FieldType} (hw : Cond.arrayClass ty ∈ lw_tbl) : ∃ cA, ArrOfT s cA ty ∧ s.vm.findClass ("[" ++ ty.toString) = some cA ∧ (Cond.arrayClass ty).before #[] s = true := by
  obtain ⟨c, k, comp, h1, h2, h3⟩ := Cond.arrayClass_spec (hts _ hw)
  exact ⟨c, fun n z => ⟨fun k h => (by cases h), k, h2, comp, h3⟩, h1, hts _ hw⟩
theorem x_objs {b : Nat} {s : State} (hts : ∀ w ∈ lw_tbl, w.before #[Value.ref b] s = true) {C : String} (hw : Cond.arrayOver (.object C) ∈ lw_tbl) : ∃ cA, ArrOfT s cA (.object C) ∧ va_RA s cA (.object C) := by
  obtain ⟨comp, c, k, h1, h2, h3, h4, h5⟩ := Cond.arrayOver_spec (hts _ hw)
  exact ⟨c, fun n z => ⟨fun k h => (by cases h), k, h3, comp, h4⟩, k, comp, h3, h4, h1, h5⟩
theorem x_AOw : ∀ (t : Nat) (C : String), x_aty[t]? = some (.object C) → Cond.arrayOver (.object C) ∈ lw_tbl := by
  intro t C h
  have z : C = "java/lang/String" ∨ C = "NotationReaderModel$Value" ∨ C = "java/lang/Object" := by
    have := List.mem_of_getElem? h
    simp only [x_aty, List.mem_cons, List.not_mem_nil, or_false] at this
    rcases this with q | q | q | q | q | q <;> first | (cases q; done) | (cases q; simp; done)
  rcases z with rfl | rfl | rfl
  · exact tr 636 (by decide +kernel)
  · exact tr 685 (by decide +kernel)
  · exact tr 493 (by decide +kernel)
theorem x_KA {b : Nat} {s : State} (hts : ∀ w ∈ lw_tbl, w.before #[Value.ref b] s = true) : ∃ dA : Nat → ClassId, ab_KA dA x_aty s := by
  have h1 : ∀ (t : Nat), ∃ (cA : ClassId), ∀ (ty : FieldType), x_aty[t]? = some ty → ArrOfT s cA ty ∧ va_RA s cA ty ∧ ((∃ x, newarray.typeOf x = ty) → (Cond.arrayClass ty).before #[] s = true) := by
    intro t
    cases ht : x_aty[t]? with
    | none => exact ⟨0, fun ty h => by cases h⟩
    | some ty =>
      have hm := List.mem_of_getElem? ht
      simp only [x_aty, List.mem_cons, List.not_mem_nil, or_false] at hm
      rcases hm with rfl | rfl | rfl | hm
      · obtain ⟨cA, a1, a2, a3⟩ := x_prim hts (ty := .byte) (tr 76 (by decide +kernel))
        exact ⟨cA, fun ty h => by cases h; exact ⟨a1, a2, fun _ => a3⟩⟩
      · obtain ⟨cA, a1, a2, a3⟩ := x_prim hts (ty := .int) (tr 749 (by decide +kernel))
        exact ⟨cA, fun ty h => by cases h; exact ⟨a1, a2, fun _ => a3⟩⟩
      · obtain ⟨cA, a1, a2, a3⟩ := x_prim hts (ty := .long) (tr 1179 (by decide +kernel))
        exact ⟨cA, fun ty h => by cases h; exact ⟨a1, a2, fun _ => a3⟩⟩
      · have hC : ∃ C, ty = .object C := by rcases hm with rfl | rfl | rfl <;> exact ⟨_, rfl⟩
        obtain ⟨C, rfl⟩ := hC
        obtain ⟨cA, a1, a2⟩ := x_objs hts (x_AOw t C ht)
        refine ⟨cA, fun ty h => ?_⟩
        cases h
        refine ⟨a1, a2, fun ⟨x, hx⟩ => ?_⟩
        cases x <;> simp [newarray.typeOf] at hx
  exact ⟨fun t => (h1 t).choose, fun t ty ht => (h1 t).choose_spec ty ht⟩
theorem x_ncb : x_nc.all (fun q => (flatC x_nar).contains (.not (.castable (((x_cl[q.1]?).getD ("", xT0, 0)).1) (((x_cl[q.2]?).getD ("", xT0, 0)).1)))) = true := by decide +kernel
theorem x_NC {b : Nat} {s : State} {D : va_G} (h : x_nar.before #[Value.ref b] s = true) (hKC : ab_KC D x_cl s) : ab_NCs D x_nc s := by
  intro i j hij
  have z := List.all_eq_true.mp x_ncb (i, j) hij
  simp only [List.contains_iff_mem] at z
  obtain ⟨ci, cj, f1, f2, f3⟩ := va_Nc.of (flat_of_before _ h _ z)
  have hi : ∃ r, x_cl[i]? = some r := by
    simp only [x_nc, List.mem_cons, Prod.mk.injEq, List.not_mem_nil, or_false] at hij
    rcases hij with ⟨rfl, -⟩ | ⟨rfl, -⟩ | ⟨rfl, -⟩ | ⟨rfl, -⟩ | ⟨rfl, -⟩ | ⟨rfl, -⟩ | ⟨rfl, -⟩ | ⟨rfl, -⟩ | ⟨rfl, -⟩ | ⟨rfl, -⟩ | ⟨rfl, -⟩ | ⟨rfl, -⟩ <;> exact ⟨_, rfl⟩
  have hj : ∃ r, x_cl[j]? = some r := by
    simp only [x_nc, List.mem_cons, Prod.mk.injEq, List.not_mem_nil, or_false] at hij
    rcases hij with ⟨-, rfl⟩ | ⟨-, rfl⟩ | ⟨-, rfl⟩ | ⟨-, rfl⟩ | ⟨-, rfl⟩ | ⟨-, rfl⟩ | ⟨-, rfl⟩ | ⟨-, rfl⟩ | ⟨-, rfl⟩ | ⟨-, rfl⟩ | ⟨-, rfl⟩ | ⟨-, rfl⟩ <;> exact ⟨_, rfl⟩
  obtain ⟨r, hr⟩ := hi
  obtain ⟨r', hr'⟩ := hj
  rw [hr] at f1
  rw [hr'] at f2
  cases f1.symm.trans (hKC i r hr).1.2.1
  cases f2.symm.trans (hKC j r' hr').1.2.1
  exact f3
theorem x_F {b : Nat} {s : State} {D : va_G} {dA : Nat → ClassId} (h : x_nar.before #[Value.ref b] s = true) (hts : ∀ w ∈ lw_tbl, w.before #[Value.ref b] s = true) (hKC : ab_KC D x_cl s) (hKA : ab_KA dA x_aty s) : ab_F D dA x_cl x_aty (x_od b s) x_Ts x_nc x_mt s := by
  refine ⟨x_Tsok hts, hKC, hKA, x_NC h hKC, fun t C ht => va_AO.of (hts _ (x_AOw t C ht)), fun M hM x a b' w hp => ?_⟩
  obtain ⟨z1, z2, tx, z3⟩ := ((x_MS M hM).2 x _ hp).2.2.2.2.2
  exact ⟨tx, vk_R.of (hts _ z3) (x_odw h z1 z2).1⟩
theorem x_OO {b : Nat} {s : State} (h : x_nar.before #[Value.ref b] s = true) : ab_OO s.heap.size (x_od b s) x_cl x_oo s s.heap := by
  intro w ci fs hw
  unfold x_oo at hw
  split at hw
  · rename_i hc
    obtain ⟨c1, c2, c3⟩ := hc
    cases hw
    refine ⟨_, rfl, ?_, fun k v hk => by simp at hk⟩
    have hw' : x_trms[w]? = some (x_trms[w]'c2) := List.getElem?_eq_getElem c2
    have z := (x_odw h hw' (by omega)).2.2
    rw [show x_nm w = "java/lang/String" from by unfold x_nm; rw [if_neg c3]] at z
    exact z
  · cases hw
theorem x_SZ {b : Nat} {s : State} (h : x_nar.before #[Value.ref b] s = true) (hts : ∀ w ∈ lw_tbl, w.before #[Value.ref b] s = true) : ∀ M ∈ x_mt, ab_SZ s.heap.size (x_od b s) x_Ts (my_y M).cls (my_p M) s s.heap := by
  intro M hM x a b' v hp
  obtain ⟨z1, z2⟩ := ((x_MS M hM).2 x _ hp).2.2.2.2.2
  subst z1
  refine ⟨_, _, _, ?_, z2⟩
  exact va_Zof (hts _ (tr 112 (by decide +kernel))) (hts _ (tr 6 (by decide +kernel))) (x_odw h (w := 58) rfl (by decide)).1 (fun a ha hn => by omega)
theorem x_LS1 {b : Nat} {s : State} (h : x_nar.before #[Value.ref b] s = true) (hts : ∀ w ∈ lw_tbl, w.before #[Value.ref b] s = true) : ab_LS s.heap.size Bundle.tN "UNASSIGNED_STACK" Bundle.steD s s.heap := ab_LS.of (hts _ (tr 174 (by decide +kernel))) (flat_of_before _ h _ (by decide +kernel)) (Nat.le_refl _)
theorem x_LS2 {b : Nat} {s : State} (h : x_nar.before #[Value.ref b] s = true) (hts : ∀ w ∈ lw_tbl, w.before #[Value.ref b] s = true) : ab_LS s.heap.size Bundle.tN "SUPPRESSED_SENTINEL" Bundle.listD s s.heap := ab_LS.of (hts _ (tr 176 (by decide +kernel))) (flat_of_before _ h _ (by decide +kernel)) (Nat.le_refl _)
def x_oa (L : Nat) (xs : Nat → Int32) : Nat → Option (FieldType × Nat × (Nat → Value)) := fun w => if w = 0 then some (.int, L, fun j => .int (xs j)) else none
theorem x_OA {b L : Nat} {xs : Nat → Int32} {s : State} (hb : b < s.heap.size) (hX : va_X b L xs s s.heap) : ab_OA s.heap.size (x_od b s) (x_oa L xs) s s.heap := by
  intro w t n f hw
  unfold x_oa at hw
  split at hw
  · rename_i h0
    subst h0
    cases hw
    obtain ⟨scr, g1, g2, g3, g4, g5⟩ := hX
    refine ⟨hb, scr, g1, g2, g3, ⟨Nat.le_of_eq g4.symm, by rw [g4]⟩, fun j hj => g5 j hj⟩
  · cases hw
end
section
/-! the law's run, evaluated: rules -/
abbrev xr (L : Nat) (xs : Nat → Int32) : Nat → Nat → Nat → Nat → ab_L → List Value → ab_H → Option (ab_O × ab_H) := ab_run x_cl x_ct x_cd x_aty (x_oa L xs) x_oo x_sb 601024 7293034 x_nc x_mt
def xv (L : Nat) (xs : Nat → Int32) (d mi pc : Nat) (Lc : ab_L) (S : List Value) (h : ab_H) (o : ab_O) (h' : ab_H) : Prop := ∃ K, ∀ n, xr L xs (n + K) d mi pc Lc S h = some (o, h')
section XV
variable {L : Nat} {xs : Nat → Int32} {d mi pc pc' mi' : Nat} {Lc Lc' : ab_L} {S S' : List Value} {h h2 h' : ab_H} {o : ab_O}
theorem xv_seg (k : Nat) (hs : ∀ n, xr L xs (n + k) d mi pc Lc S h = xr L xs n d mi pc' Lc' S' h2) (e : xv L xs d mi pc' Lc' S' h2 o h') : xv L xs d mi pc Lc S h o h' := by
  obtain ⟨K, e⟩ := e
  refine ⟨K + k, fun n => ?_⟩
  rw [← Nat.add_assoc, hs, e]
variable {M N : ab_M} {i : Instr} {len tg j : Nat} {as r : List Value}
theorem xv_ret (hM : x_mt[mi]? = some M) (hf : ab_fe M pc = some (i, len, tg)) (h1 : ab_s1 (my_l M) i pc tg Lc S = none) (h2' : ab_s2 x_cl x_ct x_cd x_aty (x_oa L xs) 601024 7293034 (my_p M) ((my_y M).name == "<init>") i pc S h = none) (h3 : ab_rt M i S = none) (h4 : ab_sw pc i S = none) (h5 : ab_ob (my_p M) i S = none)
    (h6 : ab_cs x_cl x_mt (my_p M) i S h = some (j, as, r)) (hN : x_mt[j]? = some N) (hc : ab_wt r + my_l N + 11 ≤ 64 ∧ (lg_sl as).length ≤ my_l N ∧ j ≠ 0) {v : Option Value} (e1 : xv L xs d j 0 (lv_args 0 as) [] h (.inl v) h2) (e2 : xv L xs (d + 1) mi (pc + 3) Lc (v.toList ++ r) h2 o h') : xv L xs (d + 1) mi pc Lc S h o h' := by
  obtain ⟨K1, e1⟩ := e1
  obtain ⟨K2, e2⟩ := e2
  refine ⟨K1 + K2 + 1, fun n => ?_⟩
  have a1 := e1 (n + K2)
  have a2 := e2 (n + K1)
  rw [show n + K2 + K1 = n + (K1 + K2) by omega] at a1
  rw [show n + K1 + K2 = n + (K1 + K2) by omega] at a2
  show ab_run x_cl x_ct x_cd x_aty (x_oa L xs) x_oo x_sb 601024 7293034 x_nc x_mt (n + (K1 + K2) + 1) (d + 1) mi pc Lc S h = _
  rw [ab_run, hM]
  simp only [hf, h1, h2', h3, h4, h5, h6, hN, if_pos hc]
  rw [show ab_run x_cl x_ct x_cd x_aty (x_oa L xs) x_oo x_sb 601024 7293034 x_nc x_mt (n + (K1 + K2)) d j 0 (lv_args 0 as) [] h = some (.inl v, h2) from a1]
  exact a2
theorem xv_pass (hM : x_mt[mi]? = some M) (hf : ab_fe M pc = some (i, len, tg)) (h1 : ab_s1 (my_l M) i pc tg Lc S = none) (h2' : ab_s2 x_cl x_ct x_cd x_aty (x_oa L xs) 601024 7293034 (my_p M) ((my_y M).name == "<init>") i pc S h = none) (h3 : ab_rt M i S = none) (h4 : ab_sw pc i S = none) (h5 : ab_ob (my_p M) i S = none)
    (h6 : ab_cs x_cl x_mt (my_p M) i S h = some (j, as, r)) (hN : x_mt[j]? = some N) (hc : ab_wt r + my_l N + 11 ≤ 64 ∧ (lg_sl as).length ≤ my_l N ∧ j ≠ 0) (hh : my_h M = []) {ce q : Nat} (e1 : xv L xs d j 0 (lv_args 0 as) [] h (.inr (ce, q)) h') : xv L xs (d + 1) mi pc Lc S h (.inr (ce, q)) h' := by
  obtain ⟨K1, e1⟩ := e1
  refine ⟨K1 + 1, fun n => ?_⟩
  have a1 := e1 n
  show ab_run x_cl x_ct x_cd x_aty (x_oa L xs) x_oo x_sb 601024 7293034 x_nc x_mt (n + K1 + 1) (d + 1) mi pc Lc S h = _
  rw [ab_run, hM]
  simp only [hf, h1, h2', h3, h4, h5, h6, hN, if_pos hc]
  rw [show ab_run x_cl x_ct x_cd x_aty (x_oa L xs) x_oo x_sb 601024 7293034 x_nc x_mt (n + K1) d j 0 (lv_args 0 as) [] h = some (.inr (ce, q), h') from a1]
  simp only [if_pos hh]
theorem xv_catch (hM : x_mt[mi]? = some M) (hf : ab_fe M pc = some (i, len, tg)) (h1 : ab_s1 (my_l M) i pc tg Lc S = none) (h2' : ab_s2 x_cl x_ct x_cd x_aty (x_oa L xs) 601024 7293034 (my_p M) ((my_y M).name == "<init>") i pc S h = none) (h3 : ab_rt M i S = none) (h4 : ab_sw pc i S = none) (h5 : ab_ob (my_p M) i S = none)
    (h6 : ab_cs x_cl x_mt (my_p M) i S h = some (j, as, r)) (hN : x_mt[j]? = some N) (hc : ab_wt r + my_l N + 11 ≤ 64 ∧ (lg_sl as).length ≤ my_l N ∧ j ≠ 0) (hh : ¬ my_h M = []) {ce q hp : Nat} (e1 : xv L xs d j 0 (lv_args 0 as) [] h (.inr (ce, q)) h2) (hix : ab_isx h2 q ce = true) (hd : ab_hd M x_nc pc ce (my_h M) = some hp) (e2 : xv L xs (d + 1) mi hp Lc [.ref q] h2 o h') : xv L xs (d + 1) mi pc Lc S h o h' := by
  obtain ⟨K1, e1⟩ := e1
  obtain ⟨K2, e2⟩ := e2
  refine ⟨K1 + K2 + 1, fun n => ?_⟩
  have a1 := e1 (n + K2)
  have a2 := e2 (n + K1)
  rw [show n + K2 + K1 = n + (K1 + K2) by omega] at a1
  rw [show n + K1 + K2 = n + (K1 + K2) by omega] at a2
  show ab_run x_cl x_ct x_cd x_aty (x_oa L xs) x_oo x_sb 601024 7293034 x_nc x_mt (n + (K1 + K2) + 1) (d + 1) mi pc Lc S h = _
  rw [ab_run, hM]
  simp only [hf, h1, h2', h3, h4, h5, h6, hN, if_pos hc]
  rw [show ab_run x_cl x_ct x_cd x_aty (x_oa L xs) x_oo x_sb 601024 7293034 x_nc x_mt (n + (K1 + K2)) d j 0 (lv_args 0 as) [] h = some (.inr (ce, q), h2) from a1]
  simp only [if_neg hh, if_pos hix, hd]
  exact a2
end XV
end
section
/-! the law's run comes to its end with 1: rules; and how the kernel alone can see it of a run with free names in it -/
def x_one (r : Option (ab_O × ab_H)) : Bool := match r with
  | some (.inl (some (.int v)), _) => v == 1
  | _ => false
theorem x_one_ok {r : Option (ab_O × ab_H)} (h : x_one r = true) : ∃ h', r = some (.inl (some (.int 1)), h') := by
  unfold x_one at h
  split at h
  · rename_i v h'
    have e : v = 1 := by simpa using h
    subst e
    exact ⟨_, rfl⟩
  · cases h
/-- a test that the one thing passes which would fail it, if any did, all things pass: so a closed term stands for every value -/
theorem x_every {T : Type} (t0 : T) (b : T → Bool) (h : b (@Classical.epsilon T ⟨t0⟩ (fun t => b t = false)) = true) (t : T) : b t = true := by
  cases e : b t with
  | true => rfl
  | false =>
    have z := @Classical.epsilon_spec T (fun t => b t = false) ⟨t, e⟩
    exact absurd (h.symm.trans z) (by decide)
def x_G (L : Nat) (xs : Nat → Int32) (d mi pc : Nat) (Lc : ab_L) (S : List Value) (h : ab_H) : Prop := ∃ K, ∀ n, x_one (xr L xs (n + K) d mi pc Lc S h) = true
section XG
variable {L : Nat} {xs : Nat → Int32} {d mi pc pc' : Nat} {Lc Lc' : ab_L} {S S' : List Value} {h h2 : ab_H}
theorem xg_seg (k : Nat) (hs : ∀ n, xr L xs (n + k) d mi pc Lc S h = xr L xs n d mi pc' Lc' S' h2) (e : x_G L xs d mi pc' Lc' S' h2) : x_G L xs d mi pc Lc S h := by
  obtain ⟨K, e⟩ := e
  refine ⟨K + k, fun n => ?_⟩
  rw [← Nat.add_assoc, hs, e]
variable {M N : ab_M} {i : Instr} {len tg j : Nat} {as r : List Value}
theorem xg_ret (hM : x_mt[mi]? = some M) (hf : ab_fe M pc = some (i, len, tg)) (h1 : ab_s1 (my_l M) i pc tg Lc S = none) (h2' : ab_s2 x_cl x_ct x_cd x_aty (x_oa L xs) 601024 7293034 (my_p M) ((my_y M).name == "<init>") i pc S h = none) (h3 : ab_rt M i S = none) (h4 : ab_sw pc i S = none) (h5 : ab_ob (my_p M) i S = none)
    (h6 : ab_cs x_cl x_mt (my_p M) i S h = some (j, as, r)) (hN : x_mt[j]? = some N) (hc : ab_wt r + my_l N + 11 ≤ 64 ∧ (lg_sl as).length ≤ my_l N ∧ j ≠ 0) {v : Option Value} (e1 : xv L xs d j 0 (lv_args 0 as) [] h (.inl v) h2) (e2 : x_G L xs (d + 1) mi (pc + 3) Lc (v.toList ++ r) h2) : x_G L xs (d + 1) mi pc Lc S h := by
  obtain ⟨K1, e1⟩ := e1
  obtain ⟨K2, e2⟩ := e2
  refine ⟨K1 + K2 + 1, fun n => ?_⟩
  have a1 := e1 (n + K2)
  have a2 := e2 (n + K1)
  rw [show n + K2 + K1 = n + (K1 + K2) by omega] at a1
  rw [show n + K1 + K2 = n + (K1 + K2) by omega] at a2
  show x_one (ab_run x_cl x_ct x_cd x_aty (x_oa L xs) x_oo x_sb 601024 7293034 x_nc x_mt (n + (K1 + K2) + 1) (d + 1) mi pc Lc S h) = _
  rw [ab_run, hM]
  simp only [hf, h1, h2', h3, h4, h5, h6, hN, if_pos hc]
  rw [show ab_run x_cl x_ct x_cd x_aty (x_oa L xs) x_oo x_sb 601024 7293034 x_nc x_mt (n + (K1 + K2)) d j 0 (lv_args 0 as) [] h = some (.inl v, h2) from a1]
  exact a2
end XG
end
section
/-! the law's run, evaluated: the two new objects -/
def x_n1 : ab_H := [.inr (0, [.ref 1, .ref 6, .int (-1)]), .inr (1, [.ref 2, .ref 3, .int 0, .int 0, .ref 4, .ref 5]), .inl (0, 4096, fun _ => .int 0), .inl (0, 4096, fun _ => .int 0),
  .inr (2, [.int 26, .int 0, .int 0, .int 0, .int 0, .long 0]), .inr (2, [.int 26, .int 0, .int 0, .int 0, .int 0, .long 0]), .inr (4, [.float 58, .int 0, .int 0])]
def x_n2 (f g : Nat → Value) : ab_H := [.inr (3, [.int 0, .ref 8, .int 0, .int (-1), .ref 9, .ref 10, .int 0, .int 0, .int 0, .long 0, .null, .int 0, .int 0, .int 0, .int 0, .ref 11, .ref 12, .ref 13, .ref 14, .ref 15, .ref 16]),
  .inl (0, 4096, fun _ => .int 0), .inl (3, 12, f), .inl (3, 35, g), .inl (4, 64, fun _ => .null), .inl (1, 64, fun _ => .int 0), .inl (1, 64, fun _ => .int 0), .inl (1, 64, fun _ => .int 0), .inl (1, 64, fun _ => .int 0), .inl (3, 64, fun _ => .null)]
def x_n0 : ab_H := [.inr (0, x_cd 0)]
def x_m0 : ab_H := x_n1 ++ [.inr (3, x_cd 3)]
set_option maxHeartbeats 40000000 in
set_option maxRecDepth 100000 in
theorem x_i1 (L : Nat) (xs : Nat → Int32) : xv L xs 999 10 0 [(0, .ref 0)] [] x_n0 (.inl none) x_n1 := ⟨100, fun n => rfl⟩
set_option maxHeartbeats 40000000 in
set_option maxRecDepth 100000 in
theorem x_i2 (L : Nat) (xs : Nat → Int32) : ∃ f g : Nat → Value, xv L xs 999 33 0 [(0, .ref 7)] [] x_m0 (.inl none) (x_n1 ++ x_n2 f g) := ⟨_, _, 400, fun n => rfl⟩
end
section
/-! the law's run, evaluated: its head, short scripts, the switch; made by wip/whole/gen/ops.py -/
def x_hh (f g : Nat → Value) : ab_H := x_n1 ++ x_n2 f g ++ [.inl (2, 1, fun _ => .long 0)]
def x_L0 : ab_L := [(4, .int 0), (3, .ref 17), (2, .ref 7), (1, .ref 0), (0, .float 0)]
set_option maxHeartbeats 4000000 in
theorem x_head (L : Nat) (xs : Nat → Int32) : ∃ f g : Nat → Value, x_G L xs 1000 0 23 x_L0 [] (x_hh f g) → x_G L xs 1000 0 0 [(0, .float 0)] [] [] := by
  obtain ⟨f, g, e2⟩ := x_i2 L xs
  refine ⟨f, g, fun e => ?_⟩
  refine xg_seg 2 (pc' := 4) (Lc' := [(0, .float 0)]) (S' := [.ref 0, .ref 0]) (h2 := x_n0) (fun n => rfl) ?_
  refine xg_ret (M := xM0) (N := xM10) (i := .invokespecial 50) (len := 3) (tg := 0) (j := 10) (as := [.ref 0]) (r := [.ref 0]) rfl rfl rfl rfl rfl rfl rfl rfl rfl ⟨Nat.le_of_ble_eq_true rfl, Nat.le_of_ble_eq_true rfl, by decide⟩ (x_i1 L xs) ?_
  refine xg_seg 3 (pc' := 12) (Lc' := [(1, .ref 0), (0, .float 0)]) (S' := [.ref 7, .ref 7]) (h2 := x_m0) (fun n => rfl) ?_
  refine xg_ret (M := xM0) (N := xM33) (i := .invokespecial 53) (len := 3) (tg := 0) (j := 33) (as := [.ref 7]) (r := [.ref 7]) rfl rfl rfl rfl rfl rfl rfl rfl rfl ⟨Nat.le_of_ble_eq_true rfl, Nat.le_of_ble_eq_true rfl, by decide⟩ e2 ?_
  exact xg_seg 6 (fun n => rfl) e
def x_go (xs : Nat → Int32) (f g : Nat → Value) (k : Int32) : Prop := x_G 6 xs 1000 0 40 x_L0 [.int k] (x_hh f g)
set_option maxHeartbeats 4000000 in
theorem x_switch (xs : Nat → Int32) (f g : Nat → Value) (h : x_go xs f g (xs 0 &&& 15)) : x_G 6 xs 1000 0 23 x_L0 [] (x_hh f g) := xg_seg 11 (fun n => rfl) h
theorem x_and15 (x : Int32) : ∃ k : Nat, k < 16 ∧ x &&& 15 = Int32.ofNat k := by
  refine ⟨(x &&& 15).toBitVec.toNat, ?_, ?_⟩
  · rw [Int32.toBitVec_and, BitVec.toNat_and]
    exact Nat.lt_succ_of_le (Nat.and_le_right)
  · apply Int32.toBitVec_inj.mp
    apply BitVec.eq_of_toNat_eq
    show _ = (Int32.ofNat _).toBitVec.toNat
    rw [Int32.toBitVec_ofNat']
    simp
end
section
/-! the law's run, evaluated by the kernel: calls whose way doesn't hang on their arguments; made by wip/whole/gen/ops.py -/
theorem x_sh0 (xs : Nat → Int32) (f g : Nat → Value) : x_G 0 xs 1000 0 23 x_L0 [] (x_hh f g) := ⟨40, fun n => x_every (T := (Nat → Int32) × (Nat → Value) × (Nat → Value) × Nat) (fun _ => 0, fun _ => .null, fun _ => .null, 0) (fun t => x_one (xr 0 t.1 (t.2.2.2 + 40) 1000 0 23 x_L0 [] (x_hh t.2.1 t.2.2.1))) (by decide +kernel) (xs, f, g, n)⟩
theorem x_sh1 (xs : Nat → Int32) (f g : Nat → Value) : x_G 1 xs 1000 0 23 x_L0 [] (x_hh f g) := ⟨40, fun n => x_every (T := (Nat → Int32) × (Nat → Value) × (Nat → Value) × Nat) (fun _ => 0, fun _ => .null, fun _ => .null, 0) (fun t => x_one (xr 1 t.1 (t.2.2.2 + 40) 1000 0 23 x_L0 [] (x_hh t.2.1 t.2.2.1))) (by decide +kernel) (xs, f, g, n)⟩
theorem x_sh2 (xs : Nat → Int32) (f g : Nat → Value) : x_G 2 xs 1000 0 23 x_L0 [] (x_hh f g) := ⟨40, fun n => x_every (T := (Nat → Int32) × (Nat → Value) × (Nat → Value) × Nat) (fun _ => 0, fun _ => .null, fun _ => .null, 0) (fun t => x_one (xr 2 t.1 (t.2.2.2 + 40) 1000 0 23 x_L0 [] (x_hh t.2.1 t.2.2.1))) (by decide +kernel) (xs, f, g, n)⟩
theorem x_sh3 (xs : Nat → Int32) (f g : Nat → Value) : x_G 3 xs 1000 0 23 x_L0 [] (x_hh f g) := ⟨40, fun n => x_every (T := (Nat → Int32) × (Nat → Value) × (Nat → Value) × Nat) (fun _ => 0, fun _ => .null, fun _ => .null, 0) (fun t => x_one (xr 3 t.1 (t.2.2.2 + 40) 1000 0 23 x_L0 [] (x_hh t.2.1 t.2.2.1))) (by decide +kernel) (xs, f, g, n)⟩
theorem x_sh4 (xs : Nat → Int32) (f g : Nat → Value) : x_G 4 xs 1000 0 23 x_L0 [] (x_hh f g) := ⟨40, fun n => x_every (T := (Nat → Int32) × (Nat → Value) × (Nat → Value) × Nat) (fun _ => 0, fun _ => .null, fun _ => .null, 0) (fun t => x_one (xr 4 t.1 (t.2.2.2 + 40) 1000 0 23 x_L0 [] (x_hh t.2.1 t.2.2.1))) (by decide +kernel) (xs, f, g, n)⟩
theorem x_sh5 (xs : Nat → Int32) (f g : Nat → Value) : x_G 5 xs 1000 0 23 x_L0 [] (x_hh f g) := ⟨40, fun n => x_every (T := (Nat → Int32) × (Nat → Value) × (Nat → Value) × Nat) (fun _ => 0, fun _ => .null, fun _ => .null, 0) (fun t => x_one (xr 5 t.1 (t.2.2.2 + 40) 1000 0 23 x_L0 [] (x_hh t.2.1 t.2.2.1))) (by decide +kernel) (xs, f, g, n)⟩
theorem x_short (xs : Nat → Int32) (f g : Nat → Value) (L : Nat) (hL : L < 6) : x_G L xs 1000 0 23 x_L0 [] (x_hh f g) := by
  have h : L = 0 ∨ L = 1 ∨ L = 2 ∨ L = 3 ∨ L = 4 ∨ L = 5 := by omega
  rcases h with rfl | rfl | rfl | rfl | rfl | rfl
  · exact x_sh0 xs f g
  · exact x_sh1 xs f g
  · exact x_sh2 xs f g
  · exact x_sh3 xs f g
  · exact x_sh4 xs f g
  · exact x_sh5 xs f g
theorem x_go3 (xs : Nat → Int32) (f g : Nat → Value) : x_go xs f g 3 := ⟨3000, fun n => x_every (T := (Nat → Int32) × (Nat → Value) × (Nat → Value) × Nat) (fun _ => 0, fun _ => .null, fun _ => .null, 0) (fun t => x_one (xr 6 t.1 (t.2.2.2 + 3000) 1000 0 40 x_L0 [.int 3] (x_hh t.2.1 t.2.2.1))) (by decide +kernel) (xs, f, g, n)⟩
theorem x_go10 (xs : Nat → Int32) (f g : Nat → Value) : x_go xs f g 10 := ⟨3000, fun n => x_every (T := (Nat → Int32) × (Nat → Value) × (Nat → Value) × Nat) (fun _ => 0, fun _ => .null, fun _ => .null, 0) (fun t => x_one (xr 6 t.1 (t.2.2.2 + 3000) 1000 0 40 x_L0 [.int 10] (x_hh t.2.1 t.2.2.1))) (by decide +kernel) (xs, f, g, n)⟩
theorem x_go11 (xs : Nat → Int32) (f g : Nat → Value) : x_go xs f g 11 := ⟨3000, fun n => x_every (T := (Nat → Int32) × (Nat → Value) × (Nat → Value) × Nat) (fun _ => 0, fun _ => .null, fun _ => .null, 0) (fun t => x_one (xr 6 t.1 (t.2.2.2 + 3000) 1000 0 40 x_L0 [.int 11] (x_hh t.2.1 t.2.2.1))) (by decide +kernel) (xs, f, g, n)⟩
theorem x_go12 (xs : Nat → Int32) (f g : Nat → Value) : x_go xs f g 12 := ⟨3000, fun n => x_every (T := (Nat → Int32) × (Nat → Value) × (Nat → Value) × Nat) (fun _ => 0, fun _ => .null, fun _ => .null, 0) (fun t => x_one (xr 6 t.1 (t.2.2.2 + 3000) 1000 0 40 x_L0 [.int 12] (x_hh t.2.1 t.2.2.1))) (by decide +kernel) (xs, f, g, n)⟩
theorem x_go13 (xs : Nat → Int32) (f g : Nat → Value) : x_go xs f g 13 := ⟨3000, fun n => x_every (T := (Nat → Int32) × (Nat → Value) × (Nat → Value) × Nat) (fun _ => 0, fun _ => .null, fun _ => .null, 0) (fun t => x_one (xr 6 t.1 (t.2.2.2 + 3000) 1000 0 40 x_L0 [.int 13] (x_hh t.2.1 t.2.2.1))) (by decide +kernel) (xs, f, g, n)⟩
theorem x_go14 (xs : Nat → Int32) (f g : Nat → Value) : x_go xs f g 14 := ⟨3000, fun n => x_every (T := (Nat → Int32) × (Nat → Value) × (Nat → Value) × Nat) (fun _ => 0, fun _ => .null, fun _ => .null, 0) (fun t => x_one (xr 6 t.1 (t.2.2.2 + 3000) 1000 0 40 x_L0 [.int 14] (x_hh t.2.1 t.2.2.1))) (by decide +kernel) (xs, f, g, n)⟩
theorem x_go15 (xs : Nat → Int32) (f g : Nat → Value) : x_go xs f g 15 := ⟨3000, fun n => x_every (T := (Nat → Int32) × (Nat → Value) × (Nat → Value) × Nat) (fun _ => 0, fun _ => .null, fun _ => .null, 0) (fun t => x_one (xr 6 t.1 (t.2.2.2 + 3000) 1000 0 40 x_L0 [.int 15] (x_hh t.2.1 t.2.2.1))) (by decide +kernel) (xs, f, g, n)⟩
theorem x_go0 (xs : Nat → Int32) (f g : Nat → Value) : x_go xs f g 0 := ⟨3000, fun n => x_every (T := (Nat → Int32) × (Nat → Value) × (Nat → Value) × Nat) (fun _ => 0, fun _ => .null, fun _ => .null, 0) (fun t => x_one (xr 6 t.1 (t.2.2.2 + 3000) 1000 0 40 x_L0 [.int 0] (x_hh t.2.1 t.2.2.1))) (by decide +kernel) (xs, f, g, n)⟩
theorem x_go2 (xs : Nat → Int32) (f g : Nat → Value) : x_go xs f g 2 := ⟨3000, fun n => x_every (T := (Nat → Int32) × (Nat → Value) × (Nat → Value) × Nat) (fun _ => 0, fun _ => .null, fun _ => .null, 0) (fun t => x_one (xr 6 t.1 (t.2.2.2 + 3000) 1000 0 40 x_L0 [.int 2] (x_hh t.2.1 t.2.2.1))) (by decide +kernel) (xs, f, g, n)⟩
theorem x_end0 (xs : Nat → Int32) (f g : Nat → Value) : x_go (fun j => if j = 1 then 0 else xs j) f g 1 := ⟨3000, fun n => x_every (T := (Nat → Int32) × (Nat → Value) × (Nat → Value) × Nat) (fun _ => 0, fun _ => .null, fun _ => .null, 0) (fun t => x_one (xr 6 (fun j => if j = 1 then 0 else t.1 j) (t.2.2.2 + 3000) 1000 0 40 x_L0 [.int 1] (x_hh t.2.1 t.2.2.1))) (by decide +kernel) (xs, f, g, n)⟩
theorem x_count0 (xs : Nat → Int32) (f g : Nat → Value) : x_go (fun j => if j = 1 then 0 else xs j) f g 9 := ⟨3000, fun n => x_every (T := (Nat → Int32) × (Nat → Value) × (Nat → Value) × Nat) (fun _ => 0, fun _ => .null, fun _ => .null, 0) (fun t => x_one (xr 6 (fun j => if j = 1 then 0 else t.1 j) (t.2.2.2 + 3000) 1000 0 40 x_L0 [.int 9] (x_hh t.2.1 t.2.2.1))) (by decide +kernel) (xs, f, g, n)⟩
theorem x_count1 (xs : Nat → Int32) (f g : Nat → Value) : x_go (fun j => if j = 1 then 1 else xs j) f g 9 := ⟨3000, fun n => x_every (T := (Nat → Int32) × (Nat → Value) × (Nat → Value) × Nat) (fun _ => 0, fun _ => .null, fun _ => .null, 0) (fun t => x_one (xr 6 (fun j => if j = 1 then 1 else t.1 j) (t.2.2.2 + 3000) 1000 0 40 x_L0 [.int 9] (x_hh t.2.1 t.2.2.1))) (by decide +kernel) (xs, f, g, n)⟩
end
section
/-! the law's run, evaluated: what refuses on a new object; made by wip/whole/gen/ops.py -/
def x_e6 : ab_E := .inr (6, List.replicate 6 .null)
def x_hF (f g : Nat → Value) : ab_H := x_n1 ++ [.inr (3, [.int 1, .ref 8, .int 0, .int (-1), .ref 9, .ref 10, .int 0, .int 0, .int 0, .long 0, .null, .int 0, .int 0, .int 0, .int 0, .ref 11, .ref 12, .ref 13, .ref 14, .ref 15, .ref 16]),
  .inl (0, 4096, fun _ => .int 0), .inl (3, 12, f), .inl (3, 35, g), .inl (4, 64, fun _ => .null), .inl (1, 64, fun _ => .int 0), .inl (1, 64, fun _ => .int 0), .inl (1, 64, fun _ => .int 0), .inl (1, 64, fun _ => .int 0), .inl (3, 64, fun _ => .null)] ++ [.inl (2, 1, fun _ => .long 0), x_e6]
set_option maxHeartbeats 4000000 in
theorem x_nodeAt (xs : Nat → Int32) (f g : Nat → Value) (n : Int32) (d : Nat) : xv 6 xs (d + 1) 21 0 [(0, .ref 0), (1, .int n)] [] (x_hh f g) (.inr (6, 18)) (x_hh f g ++ [x_e6]) := by
  have thr : xv 6 xs (d + 1) 21 15 [(0, .ref 0), (1, .int n)] [] (x_hh f g) (.inr (6, 18)) (x_hh f g ++ [x_e6]) := ⟨1, fun n => rfl⟩
  refine xv_seg 2 (pc' := if n < 0 then 15 else 4) (Lc' := [(0, .ref 0), (1, .int n)]) (S' := []) (h2 := x_hh f g) (fun _ => rfl) ?_
  by_cases hn : n < 0
  · rw [if_pos hn]; exact thr
  · rw [if_neg hn]
    refine xv_seg 3 (pc' := 9) (Lc' := [(0, .ref 0), (1, .int n)]) (S' := [.ref 6, .int n]) (h2 := x_hh f g) (fun _ => rfl) ?_
    refine xv_ret (M := xM21) (N := xM54) (i := .invokevirtual 58) (len := 3) (tg := 0) (j := 54) (as := [.ref 6]) (r := [.int n]) (v := some (.int 0)) (h2 := x_hh f g) rfl rfl rfl rfl rfl rfl rfl rfl rfl ⟨Nat.le_of_ble_eq_true rfl, Nat.le_of_ble_eq_true rfl, by decide⟩ ⟨3, fun _ => rfl⟩ ?_
    refine xv_seg 1 (pc' := if n < 0 then 25 else 15) (Lc' := [(0, .ref 0), (1, .int n)]) (S' := []) (h2 := x_hh f g) (fun _ => rfl) ?_
    rw [if_neg hn]; exact thr
set_option maxHeartbeats 4000000 in
theorem x_out (xs : Nat → Int32) (f g : Nat → Value) (n : Int32) (d : Nat) : xv 6 xs d 46 0 [(0, .ref 7), (1, .int n)] [] (x_hh f g ++ [x_e6]) (.inl (some (.int 1))) (x_hh f g ++ [x_e6]) := by
  have yes : xv 6 xs d 46 12 [(0, .ref 7), (1, .int n)] [] (x_hh f g ++ [x_e6]) (.inl (some (.int 1))) (x_hh f g ++ [x_e6]) := ⟨3, fun n => rfl⟩
  refine xv_seg 2 (pc' := if n < 0 then 12 else 4) (Lc' := [(0, .ref 7), (1, .int n)]) (S' := []) (h2 := x_hh f g ++ [x_e6]) (fun _ => rfl) ?_
  by_cases hn : n < 0
  · rw [if_pos hn]; exact yes
  · rw [if_neg hn]
    refine xv_seg 4 (pc' := if n < 0 then 16 else 12) (Lc' := [(0, .ref 7), (1, .int n)]) (S' := []) (h2 := x_hh f g ++ [x_e6]) (fun _ => rfl) ?_
    rw [if_neg hn]; exact yes
end
section
/-! the law's run, evaluated: calls that refuse on a new object; made by wip/whole/gen/ops.py -/
set_option maxHeartbeats 8000000 in
set_option maxRecDepth 100000 in
theorem x_c4 (xs : Nat → Int32) (f g : Nat → Value) (a b : Int32) : xv 6 xs 998 15 0 [(0, .ref 0), (1, .int a), (2, .int b)] [] (x_hh f g) (.inr (6, 18)) (x_hh f g ++ [x_e6]) := by
  refine xv_seg 2 (pc' := 2) (Lc' := [(0, .ref 0), (1, .int a), (2, .int b)]) (S' := [.int a, .ref 0]) (h2 := x_hh f g) (fun _ => rfl) ?_
  refine xv_pass (M := xM15) (N := xM21) (i := .invokevirtual 62) (len := 3) (tg := 0) (j := 21) (as := [.ref 0, .int a]) (r := []) rfl rfl rfl rfl rfl rfl rfl rfl rfl ⟨Nat.le_of_ble_eq_true rfl, Nat.le_of_ble_eq_true rfl, by decide⟩ rfl ?_
  exact x_nodeAt xs f g a 996
set_option maxHeartbeats 8000000 in
set_option maxRecDepth 100000 in
theorem x_l4 (xs : Nat → Int32) (f g : Nat → Value) (a b : Int32) : xv 6 xs 999 4 0 [(0, .ref 0), (1, .int a), (2, .int b), (3, .ref 17)] [] (x_hh f g) (.inl (some (.int 1))) (x_hh f g ++ [x_e6]) := by
  refine xv_seg 5 (pc' := 5) (Lc' := [(0, .ref 0), (1, .int a), (2, .int b), (3, .ref 17)]) (S' := [.int b, .int a, .ref 0, .int 0, .ref 17]) (h2 := x_hh f g) (fun _ => rfl) ?_
  refine xv_catch (M := xM4) (N := xM15) (i := .invokevirtual 27) (len := 3) (tg := 0) (j := 15) (as := [.ref 0, .int a, .int b]) (r := [.int 0, .ref 17]) (ce := 6) (q := 18) (hp := 13) (h2 := x_hh f g ++ [x_e6]) rfl rfl rfl rfl rfl rfl rfl rfl rfl ⟨Nat.le_of_ble_eq_true rfl, Nat.le_of_ble_eq_true rfl, by decide⟩ (by decide) ?_ rfl rfl ⟨3, fun _ => rfl⟩
  exact x_c4 xs f g a b
set_option maxHeartbeats 8000000 in
set_option maxRecDepth 100000 in
theorem x_m4 (xs : Nat → Int32) (f g : Nat → Value) (a b : Int32) : xv 6 xs 999 40 0 [(0, .ref 7), (1, .int a), (2, .int b)] [] (x_hh f g ++ [x_e6]) (.inl (some (.int 0))) (x_hF f g) := by
  refine xv_seg 5 (pc' := 7) (Lc' := [(0, .ref 7), (1, .int a), (2, .int b)]) (S' := [.int a, .ref 7]) (h2 := x_hh f g ++ [x_e6]) (fun _ => rfl) ?_
  refine xv_ret (M := xM40) (N := xM46) (i := .invokevirtual 311) (len := 3) (tg := 0) (j := 46) (as := [.ref 7, .int a]) (r := []) (v := some (.int 1)) (h2 := x_hh f g ++ [x_e6]) rfl rfl rfl rfl rfl rfl rfl rfl rfl ⟨Nat.le_of_ble_eq_true rfl, Nat.le_of_ble_eq_true rfl, by decide⟩ (x_out xs f g a 998) ?_
  exact ⟨20, fun n => rfl⟩
theorem x_d4 (xs : Nat → Int32) (f g : Nat → Value) : x_G 6 xs 1000 0 348 [(5, .int 1), (4, .int 0), (3, .ref 17), (2, .ref 7), (1, .ref 0), (0, .float 0)] [.int 0] (x_hF f g) := ⟨100, fun n => x_every (T := (Nat → Int32) × (Nat → Value) × (Nat → Value) × Nat) (fun _ => 0, fun _ => .null, fun _ => .null, 0) (fun t => x_one (xr 6 t.1 (t.2.2.2 + 100) 1000 0 348 [(5, .int 1), (4, .int 0), (3, .ref 17), (2, .ref 7), (1, .ref 0), (0, .float 0)] [.int 0] (x_hF t.2.1 t.2.2.1))) (by decide +kernel) (xs, f, g, n)⟩
set_option maxHeartbeats 8000000 in
set_option maxRecDepth 100000 in
theorem x_r4 (xs : Nat → Int32) (f g : Nat → Value) : x_go xs f g 4 := by
  refine xg_seg 13 (pc' := 327) (Lc' := [(4, .int 0), (3, .ref 17), (2, .ref 7), (1, .ref 0), (0, .float 0)]) (S' := [.ref 17, .int (xs 2), .int (xs 1), .ref 0]) (h2 := x_hh f g) (fun _ => rfl) ?_
  refine xg_ret (M := xM0) (N := xM4) (i := .invokestatic 75) (len := 3) (tg := 0) (j := 4) (as := [.ref 0, .int (xs 1), .int (xs 2), .ref 17]) (r := []) (v := some (.int 1)) (h2 := x_hh f g ++ [x_e6]) rfl rfl rfl rfl rfl rfl rfl rfl rfl ⟨Nat.le_of_ble_eq_true rfl, Nat.le_of_ble_eq_true rfl, by decide⟩ (x_l4 xs f g (xs 1)  (xs 2)) ?_
  refine xg_seg 12 (pc' := 345) (Lc' := [(5, .int 1), (4, .int 0), (3, .ref 17), (2, .ref 7), (1, .ref 0), (0, .float 0)]) (S' := [.int (xs 2), .int (xs 1), .ref 7]) (h2 := x_hh f g ++ [x_e6]) (fun _ => rfl) ?_
  refine xg_ret (M := xM0) (N := xM40) (i := .invokevirtual 78) (len := 3) (tg := 0) (j := 40) (as := [.ref 7, .int (xs 1), .int (xs 2)]) (r := []) (v := some (.int 0)) (h2 := x_hF f g) rfl rfl rfl rfl rfl rfl rfl rfl rfl ⟨Nat.le_of_ble_eq_true rfl, Nat.le_of_ble_eq_true rfl, by decide⟩ (x_m4 xs f g (xs 1)  (xs 2)) ?_
  exact x_d4 xs f g
set_option maxHeartbeats 8000000 in
set_option maxRecDepth 100000 in
theorem x_c5 (xs : Nat → Int32) (f g : Nat → Value) (a b : Int32) : xv 6 xs 998 16 0 [(0, .ref 0), (1, .int a), (2, .int b)] [] (x_hh f g) (.inr (6, 18)) (x_hh f g ++ [x_e6]) := by
  refine xv_seg 2 (pc' := 2) (Lc' := [(0, .ref 0), (1, .int a), (2, .int b)]) (S' := [.int a, .ref 0]) (h2 := x_hh f g) (fun _ => rfl) ?_
  refine xv_pass (M := xM16) (N := xM21) (i := .invokevirtual 62) (len := 3) (tg := 0) (j := 21) (as := [.ref 0, .int a]) (r := []) rfl rfl rfl rfl rfl rfl rfl rfl rfl ⟨Nat.le_of_ble_eq_true rfl, Nat.le_of_ble_eq_true rfl, by decide⟩ rfl ?_
  exact x_nodeAt xs f g a 996
set_option maxHeartbeats 8000000 in
set_option maxRecDepth 100000 in
theorem x_l5 (xs : Nat → Int32) (f g : Nat → Value) (a b : Int32) : xv 6 xs 999 5 0 [(0, .ref 0), (1, .int a), (2, .int b), (3, .ref 17)] [] (x_hh f g) (.inl (some (.int 1))) (x_hh f g ++ [x_e6]) := by
  refine xv_seg 5 (pc' := 5) (Lc' := [(0, .ref 0), (1, .int a), (2, .int b), (3, .ref 17)]) (S' := [.int b, .int a, .ref 0, .int 0, .ref 17]) (h2 := x_hh f g) (fun _ => rfl) ?_
  refine xv_catch (M := xM5) (N := xM16) (i := .invokevirtual 31) (len := 3) (tg := 0) (j := 16) (as := [.ref 0, .int a, .int b]) (r := [.int 0, .ref 17]) (ce := 6) (q := 18) (hp := 13) (h2 := x_hh f g ++ [x_e6]) rfl rfl rfl rfl rfl rfl rfl rfl rfl ⟨Nat.le_of_ble_eq_true rfl, Nat.le_of_ble_eq_true rfl, by decide⟩ (by decide) ?_ rfl rfl ⟨3, fun _ => rfl⟩
  exact x_c5 xs f g a b
set_option maxHeartbeats 8000000 in
set_option maxRecDepth 100000 in
theorem x_m5 (xs : Nat → Int32) (f g : Nat → Value) (a b : Int32) : xv 6 xs 999 41 0 [(0, .ref 7), (1, .int a), (2, .int b)] [] (x_hh f g ++ [x_e6]) (.inl (some (.int 0))) (x_hF f g) := by
  refine xv_seg 5 (pc' := 7) (Lc' := [(0, .ref 7), (1, .int a), (2, .int b)]) (S' := [.int a, .ref 7]) (h2 := x_hh f g ++ [x_e6]) (fun _ => rfl) ?_
  refine xv_ret (M := xM41) (N := xM46) (i := .invokevirtual 311) (len := 3) (tg := 0) (j := 46) (as := [.ref 7, .int a]) (r := []) (v := some (.int 1)) (h2 := x_hh f g ++ [x_e6]) rfl rfl rfl rfl rfl rfl rfl rfl rfl ⟨Nat.le_of_ble_eq_true rfl, Nat.le_of_ble_eq_true rfl, by decide⟩ (x_out xs f g a 998) ?_
  exact ⟨20, fun n => rfl⟩
theorem x_d5 (xs : Nat → Int32) (f g : Nat → Value) : x_G 6 xs 1000 0 416 [(5, .int 1), (4, .int 0), (3, .ref 17), (2, .ref 7), (1, .ref 0), (0, .float 0)] [.int 0] (x_hF f g) := ⟨100, fun n => x_every (T := (Nat → Int32) × (Nat → Value) × (Nat → Value) × Nat) (fun _ => 0, fun _ => .null, fun _ => .null, 0) (fun t => x_one (xr 6 t.1 (t.2.2.2 + 100) 1000 0 416 [(5, .int 1), (4, .int 0), (3, .ref 17), (2, .ref 7), (1, .ref 0), (0, .float 0)] [.int 0] (x_hF t.2.1 t.2.2.1))) (by decide +kernel) (xs, f, g, n)⟩
set_option maxHeartbeats 8000000 in
set_option maxRecDepth 100000 in
theorem x_r5 (xs : Nat → Int32) (f g : Nat → Value) : x_go xs f g 5 := by
  refine xg_seg 13 (pc' := 395) (Lc' := [(4, .int 0), (3, .ref 17), (2, .ref 7), (1, .ref 0), (0, .float 0)]) (S' := [.ref 17, .int (xs 2), .int (xs 1), .ref 0]) (h2 := x_hh f g) (fun _ => rfl) ?_
  refine xg_ret (M := xM0) (N := xM5) (i := .invokestatic 79) (len := 3) (tg := 0) (j := 5) (as := [.ref 0, .int (xs 1), .int (xs 2), .ref 17]) (r := []) (v := some (.int 1)) (h2 := x_hh f g ++ [x_e6]) rfl rfl rfl rfl rfl rfl rfl rfl rfl ⟨Nat.le_of_ble_eq_true rfl, Nat.le_of_ble_eq_true rfl, by decide⟩ (x_l5 xs f g (xs 1)  (xs 2)) ?_
  refine xg_seg 12 (pc' := 413) (Lc' := [(5, .int 1), (4, .int 0), (3, .ref 17), (2, .ref 7), (1, .ref 0), (0, .float 0)]) (S' := [.int (xs 2), .int (xs 1), .ref 7]) (h2 := x_hh f g ++ [x_e6]) (fun _ => rfl) ?_
  refine xg_ret (M := xM0) (N := xM41) (i := .invokevirtual 81) (len := 3) (tg := 0) (j := 41) (as := [.ref 7, .int (xs 1), .int (xs 2)]) (r := []) (v := some (.int 0)) (h2 := x_hF f g) rfl rfl rfl rfl rfl rfl rfl rfl rfl ⟨Nat.le_of_ble_eq_true rfl, Nat.le_of_ble_eq_true rfl, by decide⟩ (x_m5 xs f g (xs 1)  (xs 2)) ?_
  exact x_d5 xs f g
set_option maxHeartbeats 8000000 in
set_option maxRecDepth 100000 in
theorem x_c6 (xs : Nat → Int32) (f g : Nat → Value) (a : Int32) : xv 6 xs 998 17 0 [(0, .ref 0), (1, .int a)] [] (x_hh f g) (.inr (6, 18)) (x_hh f g ++ [x_e6]) := by
  refine xv_seg 2 (pc' := 2) (Lc' := [(0, .ref 0), (1, .int a)]) (S' := [.int a, .ref 0]) (h2 := x_hh f g) (fun _ => rfl) ?_
  refine xv_pass (M := xM17) (N := xM21) (i := .invokevirtual 62) (len := 3) (tg := 0) (j := 21) (as := [.ref 0, .int a]) (r := []) rfl rfl rfl rfl rfl rfl rfl rfl rfl ⟨Nat.le_of_ble_eq_true rfl, Nat.le_of_ble_eq_true rfl, by decide⟩ rfl ?_
  exact x_nodeAt xs f g a 996
set_option maxHeartbeats 8000000 in
set_option maxRecDepth 100000 in
theorem x_l6 (xs : Nat → Int32) (f g : Nat → Value) (a : Int32) : xv 6 xs 999 6 0 [(0, .ref 0), (1, .int a), (2, .ref 17)] [] (x_hh f g) (.inl (some (.int 1))) (x_hh f g ++ [x_e6]) := by
  refine xv_seg 4 (pc' := 4) (Lc' := [(0, .ref 0), (1, .int a), (2, .ref 17)]) (S' := [.int a, .ref 0, .int 0, .ref 17]) (h2 := x_hh f g) (fun _ => rfl) ?_
  refine xv_catch (M := xM6) (N := xM17) (i := .invokevirtual 36) (len := 3) (tg := 0) (j := 17) (as := [.ref 0, .int a]) (r := [.int 0, .ref 17]) (ce := 6) (q := 18) (hp := 11) (h2 := x_hh f g ++ [x_e6]) rfl rfl rfl rfl rfl rfl rfl rfl rfl ⟨Nat.le_of_ble_eq_true rfl, Nat.le_of_ble_eq_true rfl, by decide⟩ (by decide) ?_ rfl rfl ⟨3, fun _ => rfl⟩
  exact x_c6 xs f g a
set_option maxHeartbeats 8000000 in
set_option maxRecDepth 100000 in
theorem x_m6 (xs : Nat → Int32) (f g : Nat → Value) (a : Int32) : xv 6 xs 999 42 0 [(0, .ref 7), (1, .int a)] [] (x_hh f g ++ [x_e6]) (.inl (some (.long 0))) (x_hF f g) := by
  refine xv_seg 5 (pc' := 7) (Lc' := [(0, .ref 7), (1, .int a)]) (S' := [.int a, .ref 7]) (h2 := x_hh f g ++ [x_e6]) (fun _ => rfl) ?_
  refine xv_ret (M := xM42) (N := xM46) (i := .invokevirtual 311) (len := 3) (tg := 0) (j := 46) (as := [.ref 7, .int a]) (r := []) (v := some (.int 1)) (h2 := x_hh f g ++ [x_e6]) rfl rfl rfl rfl rfl rfl rfl rfl rfl ⟨Nat.le_of_ble_eq_true rfl, Nat.le_of_ble_eq_true rfl, by decide⟩ (x_out xs f g a 998) ?_
  exact ⟨20, fun n => rfl⟩
theorem x_d6 (xs : Nat → Int32) (f g : Nat → Value) : x_G 6 xs 1000 0 472 [(5, .int 1), (4, .int 0), (3, .ref 17), (2, .ref 7), (1, .ref 0), (0, .float 0)] [.long 0] (x_hF f g) := ⟨100, fun n => x_every (T := (Nat → Int32) × (Nat → Value) × (Nat → Value) × Nat) (fun _ => 0, fun _ => .null, fun _ => .null, 0) (fun t => x_one (xr 6 t.1 (t.2.2.2 + 100) 1000 0 472 [(5, .int 1), (4, .int 0), (3, .ref 17), (2, .ref 7), (1, .ref 0), (0, .float 0)] [.long 0] (x_hF t.2.1 t.2.2.1))) (by decide +kernel) (xs, f, g, n)⟩
set_option maxHeartbeats 8000000 in
set_option maxRecDepth 100000 in
theorem x_r6 (xs : Nat → Int32) (f g : Nat → Value) : x_go xs f g 6 := by
  refine xg_seg 8 (pc' := 457) (Lc' := [(4, .int 0), (3, .ref 17), (2, .ref 7), (1, .ref 0), (0, .float 0)]) (S' := [.ref 17, .int (xs 1), .ref 0]) (h2 := x_hh f g) (fun _ => rfl) ?_
  refine xg_ret (M := xM0) (N := xM6) (i := .invokestatic 82) (len := 3) (tg := 0) (j := 6) (as := [.ref 0, .int (xs 1), .ref 17]) (r := []) (v := some (.int 1)) (h2 := x_hh f g ++ [x_e6]) rfl rfl rfl rfl rfl rfl rfl rfl rfl ⟨Nat.le_of_ble_eq_true rfl, Nat.le_of_ble_eq_true rfl, by decide⟩ (x_l6 xs f g (xs 1)) ?_
  refine xg_seg 7 (pc' := 469) (Lc' := [(5, .int 1), (4, .int 0), (3, .ref 17), (2, .ref 7), (1, .ref 0), (0, .float 0)]) (S' := [.int (xs 1), .ref 7]) (h2 := x_hh f g ++ [x_e6]) (fun _ => rfl) ?_
  refine xg_ret (M := xM0) (N := xM42) (i := .invokevirtual 84) (len := 3) (tg := 0) (j := 42) (as := [.ref 7, .int (xs 1)]) (r := []) (v := some (.long 0)) (h2 := x_hF f g) rfl rfl rfl rfl rfl rfl rfl rfl rfl ⟨Nat.le_of_ble_eq_true rfl, Nat.le_of_ble_eq_true rfl, by decide⟩ (x_m6 xs f g (xs 1)) ?_
  exact x_d6 xs f g
set_option maxHeartbeats 8000000 in
set_option maxRecDepth 100000 in
theorem x_c7 (xs : Nat → Int32) (f g : Nat → Value) (a b : Int32) : xv 6 xs 998 18 0 [(0, .ref 0), (1, .int a), (2, .int b)] [] (x_hh f g) (.inr (6, 18)) (x_hh f g ++ [x_e6]) := by
  refine xv_seg 2 (pc' := 2) (Lc' := [(0, .ref 0), (1, .int a), (2, .int b)]) (S' := [.int a, .ref 0]) (h2 := x_hh f g) (fun _ => rfl) ?_
  refine xv_pass (M := xM18) (N := xM21) (i := .invokevirtual 62) (len := 3) (tg := 0) (j := 21) (as := [.ref 0, .int a]) (r := []) rfl rfl rfl rfl rfl rfl rfl rfl rfl ⟨Nat.le_of_ble_eq_true rfl, Nat.le_of_ble_eq_true rfl, by decide⟩ rfl ?_
  exact x_nodeAt xs f g a 996
set_option maxHeartbeats 8000000 in
set_option maxRecDepth 100000 in
theorem x_l7 (xs : Nat → Int32) (f g : Nat → Value) (a b : Int32) : xv 6 xs 999 7 0 [(0, .ref 0), (1, .int a), (2, .int b), (3, .ref 17)] [] (x_hh f g) (.inl (some (.int 1))) (x_hh f g ++ [x_e6]) := by
  refine xv_seg 5 (pc' := 5) (Lc' := [(0, .ref 0), (1, .int a), (2, .int b), (3, .ref 17)]) (S' := [.int b, .int a, .ref 0, .int 0, .ref 17]) (h2 := x_hh f g) (fun _ => rfl) ?_
  refine xv_catch (M := xM7) (N := xM18) (i := .invokevirtual 40) (len := 3) (tg := 0) (j := 18) (as := [.ref 0, .int a, .int b]) (r := [.int 0, .ref 17]) (ce := 6) (q := 18) (hp := 13) (h2 := x_hh f g ++ [x_e6]) rfl rfl rfl rfl rfl rfl rfl rfl rfl ⟨Nat.le_of_ble_eq_true rfl, Nat.le_of_ble_eq_true rfl, by decide⟩ (by decide) ?_ rfl rfl ⟨3, fun _ => rfl⟩
  exact x_c7 xs f g a b
set_option maxHeartbeats 8000000 in
set_option maxRecDepth 100000 in
theorem x_m7 (xs : Nat → Int32) (f g : Nat → Value) (a b : Int32) : xv 6 xs 999 43 0 [(0, .ref 7), (1, .int a), (2, .int b)] [] (x_hh f g ++ [x_e6]) (.inl (some (.int 0))) (x_hF f g) := by
  refine xv_seg 5 (pc' := 7) (Lc' := [(0, .ref 7), (1, .int a), (2, .int b)]) (S' := [.int a, .ref 7]) (h2 := x_hh f g ++ [x_e6]) (fun _ => rfl) ?_
  refine xv_ret (M := xM43) (N := xM46) (i := .invokevirtual 311) (len := 3) (tg := 0) (j := 46) (as := [.ref 7, .int a]) (r := []) (v := some (.int 1)) (h2 := x_hh f g ++ [x_e6]) rfl rfl rfl rfl rfl rfl rfl rfl rfl ⟨Nat.le_of_ble_eq_true rfl, Nat.le_of_ble_eq_true rfl, by decide⟩ (x_out xs f g a 998) ?_
  exact ⟨20, fun n => rfl⟩
theorem x_d7 (xs : Nat → Int32) (f g : Nat → Value) : x_G 6 xs 1000 0 539 [(5, .int 1), (4, .int 0), (3, .ref 17), (2, .ref 7), (1, .ref 0), (0, .float 0)] [.int 0] (x_hF f g) := ⟨100, fun n => x_every (T := (Nat → Int32) × (Nat → Value) × (Nat → Value) × Nat) (fun _ => 0, fun _ => .null, fun _ => .null, 0) (fun t => x_one (xr 6 t.1 (t.2.2.2 + 100) 1000 0 539 [(5, .int 1), (4, .int 0), (3, .ref 17), (2, .ref 7), (1, .ref 0), (0, .float 0)] [.int 0] (x_hF t.2.1 t.2.2.1))) (by decide +kernel) (xs, f, g, n)⟩
set_option maxHeartbeats 8000000 in
set_option maxRecDepth 100000 in
theorem x_r7 (xs : Nat → Int32) (f g : Nat → Value) : x_go xs f g 7 := by
  refine xg_seg 13 (pc' := 518) (Lc' := [(4, .int 0), (3, .ref 17), (2, .ref 7), (1, .ref 0), (0, .float 0)]) (S' := [.ref 17, .int (xs 2), .int (xs 1), .ref 0]) (h2 := x_hh f g) (fun _ => rfl) ?_
  refine xg_ret (M := xM0) (N := xM7) (i := .invokestatic 85) (len := 3) (tg := 0) (j := 7) (as := [.ref 0, .int (xs 1), .int (xs 2), .ref 17]) (r := []) (v := some (.int 1)) (h2 := x_hh f g ++ [x_e6]) rfl rfl rfl rfl rfl rfl rfl rfl rfl ⟨Nat.le_of_ble_eq_true rfl, Nat.le_of_ble_eq_true rfl, by decide⟩ (x_l7 xs f g (xs 1)  (xs 2)) ?_
  refine xg_seg 12 (pc' := 536) (Lc' := [(5, .int 1), (4, .int 0), (3, .ref 17), (2, .ref 7), (1, .ref 0), (0, .float 0)]) (S' := [.int (xs 2), .int (xs 1), .ref 7]) (h2 := x_hh f g ++ [x_e6]) (fun _ => rfl) ?_
  refine xg_ret (M := xM0) (N := xM43) (i := .invokevirtual 87) (len := 3) (tg := 0) (j := 43) (as := [.ref 7, .int (xs 1), .int (xs 2)]) (r := []) (v := some (.int 0)) (h2 := x_hF f g) rfl rfl rfl rfl rfl rfl rfl rfl rfl ⟨Nat.le_of_ble_eq_true rfl, Nat.le_of_ble_eq_true rfl, by decide⟩ (x_m7 xs f g (xs 1)  (xs 2)) ?_
  exact x_d7 xs f g
set_option maxHeartbeats 8000000 in
set_option maxRecDepth 100000 in
theorem x_c8 (xs : Nat → Int32) (f g : Nat → Value) (a b : Int32) : xv 6 xs 998 19 0 [(0, .ref 0), (1, .int a), (2, .int b)] [] (x_hh f g) (.inr (6, 18)) (x_hh f g ++ [x_e6]) := by
  refine xv_seg 2 (pc' := 2) (Lc' := [(0, .ref 0), (1, .int a), (2, .int b)]) (S' := [.int a, .ref 0]) (h2 := x_hh f g) (fun _ => rfl) ?_
  refine xv_pass (M := xM19) (N := xM21) (i := .invokevirtual 62) (len := 3) (tg := 0) (j := 21) (as := [.ref 0, .int a]) (r := []) rfl rfl rfl rfl rfl rfl rfl rfl rfl ⟨Nat.le_of_ble_eq_true rfl, Nat.le_of_ble_eq_true rfl, by decide⟩ rfl ?_
  exact x_nodeAt xs f g a 996
set_option maxHeartbeats 8000000 in
set_option maxRecDepth 100000 in
theorem x_l8 (xs : Nat → Int32) (f g : Nat → Value) (a b : Int32) : xv 6 xs 999 8 0 [(0, .ref 0), (1, .int a), (2, .int b), (3, .ref 17)] [] (x_hh f g) (.inl (some (.int 1))) (x_hh f g ++ [x_e6]) := by
  refine xv_seg 5 (pc' := 5) (Lc' := [(0, .ref 0), (1, .int a), (2, .int b), (3, .ref 17)]) (S' := [.int b, .int a, .ref 0, .int 0, .ref 17]) (h2 := x_hh f g) (fun _ => rfl) ?_
  refine xv_catch (M := xM8) (N := xM19) (i := .invokevirtual 43) (len := 3) (tg := 0) (j := 19) (as := [.ref 0, .int a, .int b]) (r := [.int 0, .ref 17]) (ce := 6) (q := 18) (hp := 20) (h2 := x_hh f g ++ [x_e6]) rfl rfl rfl rfl rfl rfl rfl rfl rfl ⟨Nat.le_of_ble_eq_true rfl, Nat.le_of_ble_eq_true rfl, by decide⟩ (by decide) ?_ rfl rfl ⟨3, fun _ => rfl⟩
  exact x_c8 xs f g a b
set_option maxHeartbeats 8000000 in
set_option maxRecDepth 100000 in
theorem x_m8 (xs : Nat → Int32) (f g : Nat → Value) (a b : Int32) : xv 6 xs 999 44 0 [(0, .ref 7), (1, .int a), (2, .int b)] [] (x_hh f g ++ [x_e6]) (.inl (some (.int 0))) (x_hF f g) := by
  refine xv_seg 5 (pc' := 7) (Lc' := [(0, .ref 7), (1, .int a), (2, .int b)]) (S' := [.int a, .ref 7]) (h2 := x_hh f g ++ [x_e6]) (fun _ => rfl) ?_
  refine xv_ret (M := xM44) (N := xM46) (i := .invokevirtual 311) (len := 3) (tg := 0) (j := 46) (as := [.ref 7, .int a]) (r := []) (v := some (.int 1)) (h2 := x_hh f g ++ [x_e6]) rfl rfl rfl rfl rfl rfl rfl rfl rfl ⟨Nat.le_of_ble_eq_true rfl, Nat.le_of_ble_eq_true rfl, by decide⟩ (x_out xs f g a 998) ?_
  exact ⟨20, fun n => rfl⟩
theorem x_d8 (xs : Nat → Int32) (f g : Nat → Value) : x_G 6 xs 1000 0 607 [(5, .int 1), (4, .int 0), (3, .ref 17), (2, .ref 7), (1, .ref 0), (0, .float 0)] [.int 0] (x_hF f g) := ⟨100, fun n => x_every (T := (Nat → Int32) × (Nat → Value) × (Nat → Value) × Nat) (fun _ => 0, fun _ => .null, fun _ => .null, 0) (fun t => x_one (xr 6 t.1 (t.2.2.2 + 100) 1000 0 607 [(5, .int 1), (4, .int 0), (3, .ref 17), (2, .ref 7), (1, .ref 0), (0, .float 0)] [.int 0] (x_hF t.2.1 t.2.2.1))) (by decide +kernel) (xs, f, g, n)⟩
set_option maxHeartbeats 8000000 in
set_option maxRecDepth 100000 in
theorem x_r8 (xs : Nat → Int32) (f g : Nat → Value) : x_go xs f g 8 := by
  refine xg_seg 13 (pc' := 586) (Lc' := [(4, .int 0), (3, .ref 17), (2, .ref 7), (1, .ref 0), (0, .float 0)]) (S' := [.ref 17, .int (xs 2), .int (xs 1), .ref 0]) (h2 := x_hh f g) (fun _ => rfl) ?_
  refine xg_ret (M := xM0) (N := xM8) (i := .invokestatic 88) (len := 3) (tg := 0) (j := 8) (as := [.ref 0, .int (xs 1), .int (xs 2), .ref 17]) (r := []) (v := some (.int 1)) (h2 := x_hh f g ++ [x_e6]) rfl rfl rfl rfl rfl rfl rfl rfl rfl ⟨Nat.le_of_ble_eq_true rfl, Nat.le_of_ble_eq_true rfl, by decide⟩ (x_l8 xs f g (xs 1)  (xs 2)) ?_
  refine xg_seg 12 (pc' := 604) (Lc' := [(5, .int 1), (4, .int 0), (3, .ref 17), (2, .ref 7), (1, .ref 0), (0, .float 0)]) (S' := [.int (xs 2), .int (xs 1), .ref 7]) (h2 := x_hh f g ++ [x_e6]) (fun _ => rfl) ?_
  refine xg_ret (M := xM0) (N := xM44) (i := .invokevirtual 90) (len := 3) (tg := 0) (j := 44) (as := [.ref 7, .int (xs 1), .int (xs 2)]) (r := []) (v := some (.int 0)) (h2 := x_hF f g) rfl rfl rfl rfl rfl rfl rfl rfl rfl ⟨Nat.le_of_ble_eq_true rfl, Nat.le_of_ble_eq_true rfl, by decide⟩ (x_m8 xs f g (xs 1)  (xs 2)) ?_
  exact x_d8 xs f g
set_option maxHeartbeats 8000000 in
set_option maxRecDepth 100000 in
theorem x_c1 (xs : Nat → Int32) (f g : Nat → Value) (a : Int32) (h0 : a ≠ 0) : xv 6 xs 998 12 0 [(0, .ref 0), (1, .int a)] [] (x_hh f g) (.inr (6, 18)) (x_hh f g ++ [x_e6]) := by
  have thr : xv 6 xs 998 12 15 [(0, .ref 0), (1, .int a)] [] (x_hh f g) (.inr (6, 18)) (x_hh f g ++ [x_e6]) := ⟨1, fun n => rfl⟩
  refine xv_seg 2 (pc' := if a < 0 then 15 else 4) (Lc' := [(0, .ref 0), (1, .int a)]) (S' := []) (h2 := x_hh f g) (fun _ => rfl) ?_
  by_cases hn : a < 0
  · rw [if_pos hn]; exact thr
  · rw [if_neg hn]
    refine xv_seg 5 (pc' := if a ≤ 0 then 25 else 15) (Lc' := [(0, .ref 0), (1, .int a)]) (S' := []) (h2 := x_hh f g) (fun _ => rfl) ?_
    rw [if_neg (fun hle => h0 (Int32.le_antisymm hle (Int32.not_lt.mp hn)))]; exact thr
set_option maxHeartbeats 8000000 in
set_option maxRecDepth 100000 in
theorem x_l1 (xs : Nat → Int32) (f g : Nat → Value) (a : Int32) (h0 : a ≠ 0) : xv 6 xs 999 2 0 [(0, .ref 0), (1, .int a), (2, .ref 17)] [] (x_hh f g) (.inl (some (.int 1))) (x_hh f g ++ [x_e6]) := by
  refine xv_seg 4 (pc' := 4) (Lc' := [(0, .ref 0), (1, .int a), (2, .ref 17)]) (S' := [.int a, .ref 0, .int 0, .ref 17]) (h2 := x_hh f g) (fun _ => rfl) ?_
  refine xv_catch (M := xM2) (N := xM12) (i := .invokevirtual 15) (len := 3) (tg := 0) (j := 12) (as := [.ref 0, .int a]) (r := [.int 0, .ref 17]) (ce := 6) (q := 18) (hp := 12) (h2 := x_hh f g ++ [x_e6]) rfl rfl rfl rfl rfl rfl rfl rfl rfl ⟨Nat.le_of_ble_eq_true rfl, Nat.le_of_ble_eq_true rfl, by decide⟩ (by decide) ?_ rfl rfl ⟨3, fun _ => rfl⟩
  exact x_c1 xs f g a h0
set_option maxHeartbeats 8000000 in
set_option maxRecDepth 100000 in
theorem x_m1 (xs : Nat → Int32) (f g : Nat → Value) (a : Int32) (h0 : a ≠ 0) : xv 6 xs 999 37 0 [(0, .ref 7), (1, .int a)] [] (x_hh f g ++ [x_e6]) (.inl (some (.int 0))) (x_hF f g) := by
  have thr : xv 6 xs 999 37 17 [(0, .ref 7), (1, .int a)] [] (x_hh f g ++ [x_e6]) (.inl (some (.int 0))) (x_hF f g) := ⟨20, fun n => rfl⟩
  refine xv_seg 5 (pc' := if a < 0 then 17 else 9) (Lc' := [(0, .ref 7), (1, .int a)]) (S' := []) (h2 := x_hh f g ++ [x_e6]) (fun _ => rfl) ?_
  by_cases hn : a < 0
  · rw [if_pos hn]; exact thr
  · rw [if_neg hn]
    refine xv_seg 4 (pc' := if a ≤ 0 then 23 else 17) (Lc' := [(0, .ref 7), (1, .int a)]) (S' := []) (h2 := x_hh f g ++ [x_e6]) (fun _ => rfl) ?_
    rw [if_neg (fun hle => h0 (Int32.le_antisymm hle (Int32.not_lt.mp hn)))]; exact thr
theorem x_d1 (xs : Nat → Int32) (f g : Nat → Value) : x_G 6 xs 1000 0 223 [(5, .int 1), (4, .int 0), (3, .ref 17), (2, .ref 7), (1, .ref 0), (0, .float 0)] [.int 0] (x_hF f g) := ⟨100, fun n => x_every (T := (Nat → Int32) × (Nat → Value) × (Nat → Value) × Nat) (fun _ => 0, fun _ => .null, fun _ => .null, 0) (fun t => x_one (xr 6 t.1 (t.2.2.2 + 100) 1000 0 223 [(5, .int 1), (4, .int 0), (3, .ref 17), (2, .ref 7), (1, .ref 0), (0, .float 0)] [.int 0] (x_hF t.2.1 t.2.2.1))) (by decide +kernel) (xs, f, g, n)⟩
set_option maxHeartbeats 8000000 in
set_option maxRecDepth 100000 in
theorem x_r1 (xs : Nat → Int32) (f g : Nat → Value) (h0 : xs 1 ≠ 0) : x_go xs f g 1 := by
  refine xg_seg 8 (pc' := 208) (Lc' := [(4, .int 0), (3, .ref 17), (2, .ref 7), (1, .ref 0), (0, .float 0)]) (S' := [.ref 17, .int (xs 1), .ref 0]) (h2 := x_hh f g) (fun _ => rfl) ?_
  refine xg_ret (M := xM0) (N := xM2) (i := .invokestatic 63) (len := 3) (tg := 0) (j := 2) (as := [.ref 0, .int (xs 1), .ref 17]) (r := []) (v := some (.int 1)) (h2 := x_hh f g ++ [x_e6]) rfl rfl rfl rfl rfl rfl rfl rfl rfl ⟨Nat.le_of_ble_eq_true rfl, Nat.le_of_ble_eq_true rfl, by decide⟩ (x_l1 xs f g (xs 1) h0) ?_
  refine xg_seg 7 (pc' := 220) (Lc' := [(5, .int 1), (4, .int 0), (3, .ref 17), (2, .ref 7), (1, .ref 0), (0, .float 0)]) (S' := [.int (xs 1), .ref 7]) (h2 := x_hh f g ++ [x_e6]) (fun _ => rfl) ?_
  refine xg_ret (M := xM0) (N := xM37) (i := .invokevirtual 66) (len := 3) (tg := 0) (j := 37) (as := [.ref 7, .int (xs 1)]) (r := []) (v := some (.int 0)) (h2 := x_hF f g) rfl rfl rfl rfl rfl rfl rfl rfl rfl ⟨Nat.le_of_ble_eq_true rfl, Nat.le_of_ble_eq_true rfl, by decide⟩ (x_m1 xs f g (xs 1) h0) ?_
  exact x_d1 xs f g
set_option maxHeartbeats 8000000 in
set_option maxRecDepth 100000 in
theorem x_c9 (xs : Nat → Int32) (f g : Nat → Value) (a : Int32) (h0 : a ≠ 0) (h1 : a ≠ 1) : xv 6 xs 998 20 0 [(0, .ref 0), (1, .int a)] [] (x_hh f g) (.inr (6, 18)) (x_hh f g ++ [x_e6]) := by
  refine xv_seg 2 (pc' := if a = 0 then 19 else 4) (Lc' := [(0, .ref 0), (1, .int a)]) (S' := []) (h2 := x_hh f g) (fun _ => rfl) ?_
  rw [if_neg h0]
  refine xv_seg 3 (pc' := if a = 1 then 19 else 9) (Lc' := [(0, .ref 0), (1, .int a)]) (S' := []) (h2 := x_hh f g) (fun _ => rfl) ?_
  rw [if_neg h1]
  exact ⟨1, fun n => rfl⟩
set_option maxHeartbeats 8000000 in
set_option maxRecDepth 100000 in
theorem x_l9 (xs : Nat → Int32) (f g : Nat → Value) (a : Int32) (h0 : a ≠ 0) (h1 : a ≠ 1) : xv 6 xs 999 9 0 [(0, .ref 0), (1, .int a), (2, .ref 17)] [] (x_hh f g) (.inl (some (.int 1))) (x_hh f g ++ [x_e6]) := by
  refine xv_seg 4 (pc' := 4) (Lc' := [(0, .ref 0), (1, .int a), (2, .ref 17)]) (S' := [.int a, .ref 0, .int 0, .ref 17]) (h2 := x_hh f g) (fun _ => rfl) ?_
  refine xv_catch (M := xM9) (N := xM20) (i := .invokevirtual 47) (len := 3) (tg := 0) (j := 20) (as := [.ref 0, .int a]) (r := [.int 0, .ref 17]) (ce := 6) (q := 18) (hp := 12) (h2 := x_hh f g ++ [x_e6]) rfl rfl rfl rfl rfl rfl rfl rfl rfl ⟨Nat.le_of_ble_eq_true rfl, Nat.le_of_ble_eq_true rfl, by decide⟩ (by decide) ?_ rfl rfl ⟨3, fun _ => rfl⟩
  exact x_c9 xs f g a h0 h1
set_option maxHeartbeats 8000000 in
set_option maxRecDepth 100000 in
theorem x_m9 (xs : Nat → Int32) (f g : Nat → Value) (a : Int32) (h0 : a ≠ 0) (h1 : a ≠ 1) : xv 6 xs 999 45 0 [(0, .ref 7), (1, .int a)] [] (x_hh f g ++ [x_e6]) (.inl (some (.int 0))) (x_hF f g) := by
  refine xv_seg 5 (pc' := if a = 0 then 9 else 16) (Lc' := [(0, .ref 7), (1, .int a)]) (S' := []) (h2 := x_hh f g ++ [x_e6]) (fun _ => rfl) ?_
  rw [if_neg h0]
  refine xv_seg 3 (pc' := if a = 1 then 21 else 28) (Lc' := [(0, .ref 7), (1, .int a)]) (S' := []) (h2 := x_hh f g ++ [x_e6]) (fun _ => rfl) ?_
  rw [if_neg h1]
  exact ⟨20, fun n => rfl⟩
theorem x_d9 (xs : Nat → Int32) (f g : Nat → Value) : x_G 6 xs 1000 0 670 [(5, .int 1), (4, .int 0), (3, .ref 17), (2, .ref 7), (1, .ref 0), (0, .float 0)] [.int 0] (x_hF f g) := ⟨100, fun n => x_every (T := (Nat → Int32) × (Nat → Value) × (Nat → Value) × Nat) (fun _ => 0, fun _ => .null, fun _ => .null, 0) (fun t => x_one (xr 6 t.1 (t.2.2.2 + 100) 1000 0 670 [(5, .int 1), (4, .int 0), (3, .ref 17), (2, .ref 7), (1, .ref 0), (0, .float 0)] [.int 0] (x_hF t.2.1 t.2.2.1))) (by decide +kernel) (xs, f, g, n)⟩
set_option maxHeartbeats 8000000 in
set_option maxRecDepth 100000 in
theorem x_r9 (xs : Nat → Int32) (f g : Nat → Value) (h0 : xs 1 ≠ 0) (h1 : xs 1 ≠ 1) : x_go xs f g 9 := by
  refine xg_seg 8 (pc' := 655) (Lc' := [(4, .int 0), (3, .ref 17), (2, .ref 7), (1, .ref 0), (0, .float 0)]) (S' := [.ref 17, .int (xs 1), .ref 0]) (h2 := x_hh f g) (fun _ => rfl) ?_
  refine xg_ret (M := xM0) (N := xM9) (i := .invokestatic 91) (len := 3) (tg := 0) (j := 9) (as := [.ref 0, .int (xs 1), .ref 17]) (r := []) (v := some (.int 1)) (h2 := x_hh f g ++ [x_e6]) rfl rfl rfl rfl rfl rfl rfl rfl rfl ⟨Nat.le_of_ble_eq_true rfl, Nat.le_of_ble_eq_true rfl, by decide⟩ (x_l9 xs f g (xs 1) h0 h1) ?_
  refine xg_seg 7 (pc' := 667) (Lc' := [(5, .int 1), (4, .int 0), (3, .ref 17), (2, .ref 7), (1, .ref 0), (0, .float 0)]) (S' := [.int (xs 1), .ref 7]) (h2 := x_hh f g ++ [x_e6]) (fun _ => rfl) ?_
  refine xg_ret (M := xM0) (N := xM45) (i := .invokevirtual 93) (len := 3) (tg := 0) (j := 45) (as := [.ref 7, .int (xs 1)]) (r := []) (v := some (.int 0)) (h2 := x_hF f g) rfl rfl rfl rfl rfl rfl rfl rfl rfl ⟨Nat.le_of_ble_eq_true rfl, Nat.le_of_ble_eq_true rfl, by decide⟩ (x_m9 xs f g (xs 1) h0 h1) ?_
  exact x_d9 xs f g
theorem x_at1 (xs : Nat → Int32) (v : Int32) (h : xs 1 = v) : xs = fun j => if j = 1 then v else xs j := by
  funext j
  by_cases hj : j = 1
  · subst hj; rw [if_pos rfl, h]
  · rw [if_neg hj]
theorem x_go1 (xs : Nat → Int32) (f g : Nat → Value) : x_go xs f g 1 := by
  by_cases h0 : xs 1 = 0
  · rw [x_at1 xs 0 h0]; exact x_end0 xs f g
  · exact x_r1 xs f g h0
theorem x_go9 (xs : Nat → Int32) (f g : Nat → Value) : x_go xs f g 9 := by
  by_cases h0 : xs 1 = 0
  · rw [x_at1 xs 0 h0]; exact x_count0 xs f g
  · by_cases h1 : xs 1 = 1
    · rw [x_at1 xs 1 h1]; exact x_count1 xs f g
    · exact x_r9 xs f g h0 h1
end
section
/-! the law's run on a script of at most six ints comes to its end with 1; made by wip/whole/gen/ops.py -/
theorem x_six (xs : Nat → Int32) (f g : Nat → Value) (k : Nat) (hk : k < 16) : x_go xs f g (Int32.ofNat k) := by
  have z : k = 0 ∨ k = 1 ∨ k = 2 ∨ k = 3 ∨ k = 4 ∨ k = 5 ∨ k = 6 ∨ k = 7 ∨ k = 8 ∨ k = 9 ∨ k = 10 ∨ k = 11 ∨ k = 12 ∨ k = 13 ∨ k = 14 ∨ k = 15 := by omega
  rcases z with rfl | rfl | rfl | rfl | rfl | rfl | rfl | rfl | rfl | rfl | rfl | rfl | rfl | rfl | rfl | rfl
  · exact x_go0 xs f g
  · exact x_go1 xs f g
  · exact x_go2 xs f g
  · exact x_go3 xs f g
  · exact x_r4 xs f g
  · exact x_r5 xs f g
  · exact x_r6 xs f g
  · exact x_r7 xs f g
  · exact x_r8 xs f g
  · exact x_go9 xs f g
  · exact x_go10 xs f g
  · exact x_go11 xs f g
  · exact x_go12 xs f g
  · exact x_go13 xs f g
  · exact x_go14 xs f g
  · exact x_go15 xs f g
theorem x_ends (L : Nat) (xs : Nat → Int32) (hL : L ≤ 6) : ∃ (n : Nat) (h' : ab_H), xr L xs n 1000 0 0 [(0, .float 0)] [] [] = some (.inl (some (.int 1)), h') := by
  have key : x_G L xs 1000 0 0 [(0, .float 0)] [] [] := by
    obtain ⟨f, g, hh⟩ := x_head L xs
    apply hh
    by_cases h6 : L = 6
    · subst h6
      apply x_switch
      obtain ⟨k, hk, e⟩ := x_and15 (xs 0)
      rw [e]
      exact x_six xs f g k hk
    · exact x_short xs f g L (by omega)
  obtain ⟨K, hK⟩ := key
  obtain ⟨h', e⟩ := x_one_ok (hK 0)
  exact ⟨_, h', e⟩
end
section
/-! the law on a script of at most six ints, in the kit's model -/
theorem x_start {p : Program} {e : Env} {s : State} {m : MethodId} {below : List Frame} {meth : Method} {c : Code} (l : Launch) (hnt : l.stackTraces = false) {b L : Nat} {xs : Nat → Int32} (hL : L ≤ 6) (hx : p.tables.exec = Jvm.exec) (hcode : c.code = code) (hret : meth.sig.returnType = ret) (hml : c.maxLocals = 8) (hown : s.vm.findClass "NotationReaderLaw" = some m.cls) (hts : ∀ w ∈ lw_tbl, w.before #[Value.ref b] s = true) (hX : va_X b L xs s s.heap) (hb : b < s.heap.size) (hlk : meth.locks = false) (hnar : x_nar.before #[Value.ref b] s = true) (het : c.exceptionTable.isEmpty = true) (hnm : meth.name = "law") :
    W p l e room_1 s m #[Value.ref b] below meth c s.heap [] 0 0 (fun t => ∃ o, t.status = .running ∧ Ended t below o ∧ o = .returned (some (.int 1)) ∧ Framed s o t [] 601024 7293034) (entryFrame m ([Value.ref b] : List Value).toArray 8) := by
  obtain ⟨D, hKC⟩ := x_KC hts
  obtain ⟨dA, hKA⟩ := x_KA hts
  obtain ⟨n, h', hrun⟩ := x_ends L xs hL
  have hA : ab_A D dA x_cl x_aty (x_oa L xs) x_oo (x_od b s) x_Ts x_nc x_mt s.heap.size 601024 7293034 xM0 1000 room_1 s m meth c 0 0 := by
    refine ⟨hcode, hml, hret, hlk, hown, ?_, hnm, x_F hnar hts hKC hKA, x_OA hb hX, by decide, by decide, by decide, by decide, x_LS1 hnar hts, x_LS2 hnar hts, x_OO hnar, x_SZ hnar hts⟩
    rw [Array.isEmpty_iff.mp het]
    rfl
  have hR : ab_R s.heap.size (x_od b s) D dA x_cl 601024 7293034 s.heap 0 0 [] s.heap [] 0 0 := ⟨fun k x h => by simp at h, rfl, va_S.rf, rfl, rfl, by decide, by decide⟩
  have hl0 := lv_entry ([Value.float 0].map (ab_v s.heap.size (x_od b s))) (n := 8) (by rw [ab_sl_map]; decide)
  rw [ab_args_map] at hl0
  have z := ab_sound (p := p) (l := l) (e := e) hx x_SF (x_hod hnar hb) (ab_TH_ok hx hnt x_SF x_P9) (ab_TH0_ok hx hnt x_SF x_P9) n 1000 0 0 [(0, .float 0)] [] [] h' (.inl (some (.int 1))) xM0 rfl hrun room_1 s m #[Value.ref b] below meth c s.heap [] 0 0 0 0 _ hA hR hl0
  intro T hT X
  have hE : entryFrame m ([Value.ref b] : List Value).toArray 8 = F0 m 0 ((lg_sl ([Value.float 0].map (ab_v s.heap.size (x_od b s))) ++ List.replicate (8 - (lg_sl ([Value.float 0].map (ab_v s.heap.size (x_od b s)))).length) Slot.unset).toArray) ([].map (ab_v s.heap.size (x_od b s))) := by
    show entryFrame m ([Value.float 0].map (ab_v s.heap.size (x_od b s))).toArray 8 = F0 m 0 _ []
    rw [lg_entry_eq]
  rw [hE]
  obtain ⟨t, st, h1, h2, h3, Lc, k, q, h4, h5⟩ := z T hT X
  refine ⟨t, st, _, h1, h2, rfl, ⟨_, rfl⟩, h3, ?_⟩
  have h6 : s.sameButNew ({ t with vm := s.vm } : State) [] k q := State.sameButNew.drop_fresh (L := []) (J := Lc) h4 (fun x hx => h5.2.2.1.2.2 x hx)
  exact h6.mono (by have := h5.2.2.2.1; have := h5.2.2.2.2.2.1; omega) (by have := h5.2.2.2.2.1; have := h5.2.2.2.2.2.2; omega)
theorem x_nt {l : Launch} (hf : l.flags = flags0) : l.stackTraces = false := by
  unfold Launch.stackTraces
  rw [hf]
  decide
end
section
/-! System.arraycopy between two new rows of one kind -/
/-- a row of this kind may take this value -/
def ab_el (t : Nat) (ty : FieldType) (sb : List (Nat × Nat)) (oo : Nat → Option (Nat × List Value)) (h : ab_H) (v : Value) : Bool := match ty, v with
  | .byte, .int x => fits .byte (.int x)
  | .object _, .null => true
  | .object _, .ref q => (match h[q]? with
    | some (.inr (ci, _)) => sb.contains (t, ci)
    | _ => false)
  | .object _, .float w => (match oo w.toNat with
    | some (ci, _) => sb.contains (t, ci)
    | none => false)
  | _, _ => false
def ab_cpok (aty : List FieldType) (sb : List (Nat × Nat)) (oo : Nat → Option (Nat × List Value)) (h : ab_H) (t n0 n1 : Nat) (f : Nat → Value) (sp dp n : Int32) : Prop :=
  ¬ sp < 0 ∧ ¬ dp < 0 ∧ ¬ n < 0 ∧ sp.toNatClampNeg + n.toNatClampNeg ≤ n0 ∧ dp.toNatClampNeg + n.toNatClampNeg ≤ n1 ∧ ∃ ty, aty[t]? = some ty ∧ ∀ i, i < n.toNatClampNeg → ab_el t ty sb oo h (f (sp.toNatClampNeg + i)) = true
section AB8
variable {p : Program} {l : Launch} {e : Env} {R : Room} {s : State} {m : MethodId} {args : Array Value} {below : List Frame} {meth : Method} {c : Code} {H : Heap} {locs : List Loc} {cells slots : Nat} {Q : State → Prop}
variable {cc : ByteArray} {pc B n0 z0 NC NS : Nat} {od : Nat → Nat} {h : ab_H} {ls : Array Slot} {own : String}
variable {D : va_G} {dA : Nat → ClassId} {cl : List vw_C} {aty : List FieldType} {sb : List (Nat × Nat)} {oo : Nat → Option (Nat × List Value)} {Ts : List Cond}
/-- an object of class ci, in the heap, may lie in a row of kind t -/
theorem ab_takes (hTs : ∀ w ∈ Ts, va_Nw w s) (hKC : ab_KC D cl s) (hKA : ab_KA dA aty s) (hsb : ∀ t ci, (t, ci) ∈ sb → ∃ (E : String) (r : vw_C), aty[t]? = some (.object E) ∧ cl[ci]? = some r ∧ (r.1 = E ∨ Cond.castable r.1 E ∈ Ts)) {t ci : Nat} (hin : (t, ci) ∈ sb) {cellV : Cell} (g3 : ∀ r : vw_C, cl[ci]? = some r → s.vm.findClass r.1 = some cellV.cls) {kA : Class} {comp : ClassId} {ty : FieldType} (k1 : s.vm.classes[dA t]? = some kA) (k2 : kA.kind = .array comp ty) :
    (∃ kC, s.vm.classes[cellV.cls]? = some kC) ∧ (∃ kE, s.vm.classes[comp]? = some kE) ∧ s.vm.assignable cellV.cls comp = true := by
  obtain ⟨E, r1, ht, hr1, hw⟩ := hsb t ci hin
  obtain ⟨hA1, hA2, -⟩ := hKA t _ ht
  obtain ⟨kA', comp', k1', k2', k3, -⟩ := hA2
  cases k1.symm.trans k1'
  cases k2.symm.trans k2'
  obtain ⟨kE, hkE, -⟩ := Vm.findClass_spec k3
  have g3 := g3 r1 hr1
  have f3 : s.vm.assignable cellV.cls comp = true := by
    rcases hw with rfl | hw
    · cases g3.symm.trans k3
      have hca := (hKC ci r1 hr1).1.2
      have he := Option.some.inj (hca.1.symm.trans g3)
      have h1 := va_assign hca
      rw [he] at h1
      exact h1
    · obtain ⟨c0, t1, f1, f2, f3⟩ := Cond.castable_spec (hTs _ hw)
      cases g3.symm.trans f1
      cases k3.symm.trans f2
      exact f3
  obtain ⟨kC, hkC, -⟩ := Vm.findClass_spec g3
  exact ⟨⟨kC, hkC⟩, ⟨kE, hkE⟩, f3⟩
set_option maxHeartbeats 4000000 in
theorem ab_copy (hx : p.tables.exec = Jvm.exec) (hb : c.code = cc) (hml : c.maxLocals = ls.size) (hown : s.vm.findClass own = some m.cls) {index : Nat} (hlink : (Cond.methodLink own index arraycopyName).before args s = true) (hnat : (Cond.native arraycopyName).before args s = true) (hstat : (Cond.static arraycopyName).before args s = true) (hini : (Cond.initialized "java/lang/System").before args s = true)
    (hTs : ∀ w ∈ Ts, va_Nw w s) (hKC : ab_KC D cl s) (hKA : ab_KA dA aty s) (hOO : ab_OO B od cl oo s s.heap) (hsb : ∀ t ci, (t, ci) ∈ sb → ∃ (E : String) (r : vw_C), aty[t]? = some (.object E) ∧ cl[ci]? = some r ∧ (r.1 = E ∨ Cond.castable r.1 E ∈ Ts)) (hR : ab_R B od D dA cl NC NS s.heap n0 z0 h H locs cells slots)
    {t N0 N1 j0 j1 : Nat} {f g : Nat → Value} {sp dp n : Int32} {r : List Value} (h0 : h[j0]? = some (.inl (t, N0, f))) (h1 : h[j1]? = some (.inl (t, N1, g))) (hok : ab_cpok aty sb oo h t N0 N1 f sp dp n)
    (hframes : 1 ≤ R.frames) (hlocals : (r.map fun v => v.category).sum + (nativeFrameWords "java/lang/System" "arraycopy" 5 + 11) ≤ R.locals) (hdg : decode cc pc = .ok (.invokestatic index, 3))
    (k : ∀ (H1 : Heap) (locs1 : List Loc), ab_R B od D dA cl NC NS s.heap n0 z0 (h.set j1 (.inl (t, N1, va_cpy f g sp.toNatClampNeg dp.toNatClampNeg n.toNatClampNeg))) H1 locs1 cells slots → W p l e R s m args below meth c H1 locs1 cells slots Q (F0 m (pc + 3) ls r)) :
    W p l e R s m args below meth c H locs cells slots Q (F0 m pc ls (.int n :: .int dp :: .ref (B + j1) :: .int sp :: .ref (B + j0) :: r)) := by
  have nn : ∀ z : Int32, ¬ z < 0 → z.toInt = (z.toNatClampNeg : Int) := by
    intro z hz
    have hz0 : (0 : Int) ≤ z.toInt := by
      have := Int32.not_lt.mp hz
      simpa using Int32.le_iff_toInt_le.mp this
    show z.toInt = ((z.toInt.toNat : Nat) : Int)
    omega
  obtain ⟨g1, g2, g3, g4, g5, ty, hty, hel⟩ := hok
  intro T hT X
  have hc0 : H[B + j0]? = some (arrV (dA t) N0 (fun q => ab_v B od (f q))) := hR.1 j0 _ h0
  have hc1 : H[B + j1]? = some (arrV (dA t) N1 (fun q => ab_v B od (g q))) := hR.1 j1 _ h1
  obtain ⟨-, k0, hk0, cm0, hkk0⟩ := (hKA t ty hty).1 N0 (fun q => ab_v B od (f q))
  obtain ⟨vm', X', step⟩ := X.arraycopy hx hown hlink hnat hstat hini (src := B + j0) (dst := B + j1) (cs := arrV (dA t) N0 (fun q => ab_v B od (f q))) (cd := arrV (dA t) N1 (fun q => ab_v B od (g q))) (srcPos := sp) (destPos := dp) (n := n) (by rw [hT]; exact hc0) (by rw [hT]; exact hc1)
    (fun _ h => by cases h) (fun _ h => by cases h) (fun h => by cases h) (fun h => by cases h) hk0 hk0 hkk0 hkk0 (by simp) g1 g2 g3
    (by rw [nn sp g1, nn n g3, arrV_size]; omega)
    (by rw [nn dp g2, nn n g3, arrV_size]; omega)
    (fun vm₁ hal i hi => by
      have e : (arrV (dA t) N0 (fun q => ab_v B od (f q))).slots.getD (sp.toNatClampNeg + i) .null = ab_v B od (f (sp.toNatClampNeg + i)) := by
        rw [Array.getD_eq_getD_getElem?, arrV_read _ _ (by omega)]
        rfl
      rw [e]
      have hv := hel i hi
      generalize f (sp.toNatClampNeg + i) = v at hv
      unfold ab_el at hv
      split at hv
      · exact ⟨hv, trivial⟩
      · exact ⟨rfl, trivial⟩
      · rename_i C q
        split at hv
        · rename_i ci fs hq
          obtain ⟨r2, hr2, cell, q1, q2, q3, q4⟩ := hR.1 q _ hq
          obtain ⟨⟨kC, hkC⟩, ⟨kE, hkE⟩, ha⟩ := ab_takes hTs hKC hKA hsb (List.contains_iff_mem.mp hv) (cellV := cell) (fun r hr => by cases hr.symm.trans hr2; rw [q2]; exact (hKC ci _ hr2).1.2.1) hk0 hkk0
          obtain ⟨kC', hkC', -⟩ := hal.2.2 _ _ hkC
          obtain ⟨kE', hkE', -⟩ := hal.2.2 _ _ hkE
          refine ⟨rfl, cell, (show T.heap[B + q]? = some cell by rw [hT]; exact q1), (fun z hz => by rw [q3] at hz; cases hz), ⟨kC', hkC'⟩, ⟨kE', hkE'⟩, ?_⟩
          show vm₁.assignable _ _ = true
          rw [hal.assignable]
          exact ha
        · cases hv
      · rename_i C w
        split at hv
        · rename_i ci fs hw
          obtain ⟨r1, hr1, hO, -⟩ := hOO _ _ _ hw
          obtain ⟨cell, o1, o2, o3, -⟩ := hO.kept hR.2.2.1.2.1
          obtain ⟨⟨kC, hkC⟩, ⟨kE, hkE⟩, ha⟩ := ab_takes hTs hKC hKA hsb (List.contains_iff_mem.mp hv) (cellV := cell) (fun r hr => by cases hr.symm.trans hr1; exact o3) hk0 hkk0
          obtain ⟨kC', hkC', -⟩ := hal.2.2 _ _ hkC
          obtain ⟨kE', hkE', -⟩ := hal.2.2 _ _ hkE
          refine ⟨rfl, cell, (show T.heap[od w.toNat]? = some cell by rw [hT]; exact o1), (fun z hz => by rw [hz] at o2; cases o2), ⟨kC', hkC'⟩, ⟨kE', hkE'⟩, ?_⟩
          show vm₁.assignable _ _ = true
          rw [hal.assignable]
          exact ha
        · cases hv
      · cases hv)
    (g := F0 m pc ls (.int n :: .int dp :: .ref (B + j1) :: .int sp :: .ref (B + j0) :: r)) rfl (by rw [hml]) (rest := r) rfl (by rw [hb]; exact hdg) hframes (by show 2 * 0 + _ + _ ≤ _; omega)
  have e1 : copied (arrV (dA t) N0 (fun q => ab_v B od (f q))) (arrV (dA t) N1 (fun q => ab_v B od (g q))) sp dp n = arrV (dA t) N1 (fun q => ab_v B od (va_cpy f g sp.toNatClampNeg dp.toNatClampNeg n.toNatClampNeg q)) := va_copied (ab_v B od) (dA t) (dA t) f g g4
  rw [e1] at X' step
  have hl : B + j1 < H.size := (Array.getElem?_eq_some_iff.mp hc1).1
  generalize hH1 : H.setIfInBounds (B + j1) (arrV (dA t) N1 (fun q => ab_v B od (va_cpy f g sp.toNatClampNeg dp.toNatClampNeg n.toNatClampNeg q))) = H1
  have hheap : ((T.setVm vm').setCell (B + j1) (arrV (dA t) N1 (fun q => ab_v B od (va_cpy f g sp.toNatClampNeg dp.toNatClampNeg n.toNatClampNeg q)))).heap = H1 := by rw [← hH1, ← hT]; rfl
  have oq : ∀ q : Nat, q ≠ B + j1 → H1[q]? = H[q]? := fun q hq => by rw [← hH1]; simp [Array.getElem?_setIfInBounds, Ne.symm hq]
  have hself : H1[B + j1]? = some (arrV (dA t) N1 (fun q => ab_v B od (va_cpy f g sp.toNatClampNeg dp.toNatClampNeg n.toNatClampNeg q))) := by rw [← hH1]; simp [Array.getElem?_setIfInBounds, hl]
  have hsz : H1.size = H.size := by rw [← hH1]; simp
  have hR1 : ab_R B od D dA cl NC NS s.heap n0 z0 (h.set j1 (.inl (t, N1, va_cpy f g sp.toNatClampNeg dp.toNatClampNeg n.toNatClampNeg))) H1 (locs ++ ((arrV (dA t) N0 (fun q => ab_v B od (f q))).stretch sp.toNatClampNeg n.toNatClampNeg).zipIdx.map fun q => ⟨B + j1, dp.toNatClampNeg + q.2⟩) cells slots := by
    obtain ⟨w1, w2, w3, w4⟩ := hR.set (i := 0) (x := .inl (t, N1, va_cpy f g sp.toNatClampNeg dp.toNatClampNeg n.toNatClampNeg)) h1 rfl hself hsz oq
    refine ⟨w1, w2, ⟨w3.1, w3.2.1, fun q hq => ?_⟩, w4⟩
    rcases List.mem_append.mp hq with z | z
    · exact hR.2.2.1.2.2 q z
    · obtain ⟨y, -, hy⟩ := List.mem_map.mp z
      rw [← hy]
      exact Nat.le_add_right _ _
  obtain ⟨t', a1, b1⟩ := k H1 _ hR1 _ hheap X'
  exact ⟨t', step t' a1, b1⟩
end AB8
end
