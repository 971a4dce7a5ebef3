section
/-! AN ABSTRACT MACHINE. Its heap is a list of cells, counted from the first that the law makes; a reference is a place in that list. Old cells (the script, constants) are named by floats, which the program doesn't use. -/
abbrev ab_E : Type := (Nat × Nat × (Nat → Value)) ⊕ (Nat × List Value)
abbrev ab_H : Type := List ab_E
abbrev ab_L : Type := List (Nat × Value)
def ab_v (B : Nat) (od : Nat → Nat) (v : Value) : Value := match v with
  | .ref j => .ref (B + j)
  | .float w => .ref (od w.toNat)
  | v => v
theorem ab_v_cat (B : Nat) (od : Nat → Nat) (v : Value) : (ab_v B od v).category = v.category := by cases v <;> rfl
/-- a cell stands for an abstract one -/
def ab_c (B : Nat) (od : Nat → Nat) (D : va_G) (dA : Nat → ClassId) (cl : List vw_C) (k : Nat) (x : ab_E) (H : Heap) : Prop := match x with
  | .inl (t, n, f) => H[B + k]? = some (arrV (dA t) n (fun j => ab_v B od (f j)))
  | .inr (ci, fs) => ∃ r : vw_C, cl[ci]? = some r ∧ t_OB (B + k) (D.1 ci) r.2.2 (D.2 ci) H (vp_V (fs.map (ab_v B od)))
theorem ab_c.kept {B : Nat} {od : Nat → Nat} {D : va_G} {dA : Nat → ClassId} {cl : List vw_C} {k : Nat} {x : ab_E} {H H1 : Heap} (h : ab_c B od D dA cl k x H) (hq : H1[B + k]? = H[B + k]?) : ab_c B od D dA cl k x H1 := by
  rcases x with ⟨t, n, f⟩ | ⟨ci, fs⟩
  · exact hq.trans h
  · obtain ⟨r, h1, h2⟩ := h
    exact ⟨r, h1, h2.kept hq⟩
def ab_sz1 (x : ab_E) : Nat := match x with
  | .inl (_, n, _) => n
  | .inr (_, fs) => fs.length
def ab_sz (h : ab_H) : Nat := (h.map ab_sz1).sum
theorem ab_sz_push (h : ab_H) (x : ab_E) : ab_sz (h ++ [x]) = ab_sz h + ab_sz1 x := by simp [ab_sz]
/-- the heap stands for an abstract one; nothing below B has changed since H0; so many cells and slots have come since the activation began (n0, z0 were there) -/
def ab_R (B : Nat) (od : Nat → Nat) (D : va_G) (dA : Nat → ClassId) (cl : List vw_C) (NC NS : Nat) (H0 : Heap) (n0 z0 : Nat) (h : ab_H) (H : Heap) (locs : List Loc) (cells slots : Nat) : Prop :=
  (∀ (k : Nat) (x : ab_E), h[k]? = some x → ab_c B od D dA cl k x H) ∧ H.size = B + h.length ∧ va_S (fun q => B ≤ q) H0 H locs ∧ h.length = n0 + cells ∧ ab_sz h = z0 + slots ∧ h.length ≤ NC ∧ ab_sz h ≤ NS
theorem ab_R.set {B : Nat} {od : Nat → Nat} {D : va_G} {dA : Nat → ClassId} {cl : List vw_C} {NC NS : Nat} {H0 : Heap} {n0 z0 : Nat} {h : ab_H} {H H1 : Heap} {locs : List Loc} {cells slots k i : Nat} {x0 x : ab_E}
    (hR : ab_R B od D dA cl NC NS H0 n0 z0 h H locs cells slots) (hk : h[k]? = some x0) (hz : ab_sz1 x = ab_sz1 x0) (hx : ab_c B od D dA cl k x H1) (zs : H1.size = H.size) (oq : ∀ q : Nat, q ≠ B + k → H1[q]? = H[q]?) :
    ab_R B od D dA cl NC NS H0 n0 z0 (h.set k x) H1 (locs ++ [⟨B + k, i⟩]) cells slots := by
  obtain ⟨h1, h2, h3, h4, h5, h6, h7⟩ := hR
  have hl := (List.getElem?_eq_some_iff.mp hk).1
  refine ⟨fun j y hj => ?_, by rw [zs, h2, List.length_set], h3.put zs oq (Nat.le_add_right _ _), by rw [List.length_set]; exact h4, ?_⟩
  · by_cases hjk : j = k
    · subst hjk
      rw [List.getElem?_set_self hl] at hj
      cases hj
      exact hx
    · rw [List.getElem?_set_ne (Ne.symm hjk)] at hj
      exact (h1 j y hj).kept (oq _ (by omega))
  · have e : ab_sz (h.set k x) = ab_sz h := by
      have e0 : (h.set k x).map ab_sz1 = h.map ab_sz1 := by
        rw [List.map_set, hz]
        have e1 : (h.map ab_sz1)[k]? = some (ab_sz1 x0) := by rw [List.getElem?_map, hk]; rfl
        apply List.ext_getElem?
        intro j
        by_cases hjk : j = k
        · subst hjk
          rw [List.getElem?_set_self (by simpa using hl), e1]
        · rw [List.getElem?_set_ne (Ne.symm hjk)]
      unfold ab_sz
      rw [e0]
    rw [e, List.length_set]; exact ⟨h5, h6, h7⟩
theorem ab_R.push {B : Nat} {od : Nat → Nat} {D : va_G} {dA : Nat → ClassId} {cl : List vw_C} {NC NS : Nat} {H0 : Heap} {n0 z0 : Nat} {h : ab_H} {H H1 : Heap} {locs : List Loc} {cells slots n : Nat} {x : ab_E}
    (hR : ab_R B od D dA cl NC NS H0 n0 z0 h H locs cells slots) (hz : ab_sz1 x = n) (hNC : h.length + 1 ≤ NC) (hNS : ab_sz h + n ≤ NS) (hx : ab_c B od D dA cl h.length x H1) (zs : H1.size = H.size + 1) (oq : ∀ q : Nat, q < H.size → H1[q]? = H[q]?) :
    ab_R B od D dA cl NC NS H0 n0 z0 (h ++ [x]) H1 locs (cells + 1) (slots + n) := by
  obtain ⟨h1, h2, h3, h4, h5, h6, h7⟩ := hR
  refine ⟨fun j y hj => ?_, by rw [zs, h2, List.length_append]; rfl, ⟨by rw [zs]; exact Nat.le_trans h3.1 (Nat.le_succ _), fun q a b => (oq q (Nat.lt_of_lt_of_le a h3.1)).trans (h3.2.1 q a b), h3.2.2⟩, by rw [List.length_append, h4]; rfl, by rw [ab_sz_push]; omega, by rw [List.length_append]; exact hNC, by rw [ab_sz_push]; omega⟩
  by_cases hl : j < h.length
  · rw [List.getElem?_append_left hl] at hj
    exact (h1 j y hj).kept (oq _ (by rw [h2]; omega))
  · rw [List.getElem?_append_right (by omega)] at hj
    have hj0 : j - h.length < 1 := (List.getElem?_eq_some_iff.mp hj).1
    have hj1 : j = h.length := by omega
    subst hj1
    rw [Nat.sub_self] at hj
    cases hj
    exact hx
/-- locals -/
def ab_get (L : ab_L) (i : Nat) : Option Value := (L.find? (fun q => q.1 == i)).map (fun q => q.2)
def ab_put1 (L : ab_L) (i : Nat) (v : Value) : ab_L := (i, v) :: L.filter (fun q => !(q.1 == i) && !(q.1 + 1 == i && q.2.category == 2))
def ab_put2 (L : ab_L) (i : Nat) (v : Value) : ab_L := (i, v) :: L.filter (fun q => !(q.1 == i) && (!(q.1 == i + 1) && !(q.1 + 1 == i && q.2.category == 2)))
def ab_m (B : Nat) (od : Nat → Nat) (L : ab_L) : ab_L := L.map (fun q => (q.1, ab_v B od q.2))
theorem ab_get_mem {L : ab_L} {i : Nat} {v : Value} (h : ab_get L i = some v) : (i, v) ∈ L := by
  unfold ab_get at h
  cases hf : L.find? (fun q => q.1 == i) with
  | none => rw [hf] at h; cases h
  | some q =>
    rw [hf] at h
    have h1 := List.mem_of_find?_eq_some hf
    have h2 := List.find?_some hf
    obtain ⟨a, b⟩ := q
    simp at h h2
    subst h2; subst h
    exact h1
theorem ab_at {B : Nat} {od : Nat → Nat} {L : ab_L} {i nL : Nat} {v : Value} {ls : Array Slot} (hl : lv_has ls nL (ab_m B od L)) (h : ab_get L i = some v) : ls[i]? = some (.val (ab_v B od v)) :=
  hl.2.2 (i, ab_v B od v) (List.mem_map.mpr ⟨(i, v), ab_get_mem h, rfl⟩)
theorem ab_m_put1 (B : Nat) (od : Nat → Nat) (L : ab_L) (i : Nat) (v : Value) : (i, ab_v B od v) :: (ab_m B od L).filter (fun q => !(q.1 == i) && !(q.1 + 1 == i && q.2.category == 2)) = ab_m B od (ab_put1 L i v) := by
  unfold ab_m ab_put1
  rw [List.filter_map, List.map_cons]
  congr 2
  apply List.filter_congr
  intro q _
  simp [ab_v_cat]
theorem ab_m_put2 (B : Nat) (od : Nat → Nat) (L : ab_L) (i : Nat) (v : Value) : (i, ab_v B od v) :: (ab_m B od L).filter (fun q => !(q.1 == i) && (!(q.1 == i + 1) && !(q.1 + 1 == i && q.2.category == 2))) = ab_m B od (ab_put2 L i v) := by
  unfold ab_m ab_put2
  rw [List.filter_map, List.map_cons]
  congr 2
  apply List.filter_congr
  intro q _
  simp [ab_v_cat]
end
section
/-- the length of an instruction (0: not one of those, or a switch) -/
def ab_len (i : Instr) : Nat := match i with
  | .iconst _ => 1
  | .bipush _ => 2
  | .sipush _ => 3
  | .lconst _ => 1
  | .aconst_null => 1
  | .iload_n _ => 1
  | .iload _ => 2
  | .lload_n _ => 1
  | .lload _ => 2
  | .aload_n _ => 1
  | .aload _ => 2
  | .istore_n _ => 1
  | .istore _ => 2
  | .lstore_n _ => 1
  | .lstore _ => 2
  | .astore_n _ => 1
  | .astore _ => 2
  | .iinc _ _ => 3
  | .iadd => 1
  | .isub => 1
  | .imul => 1
  | .iand => 1
  | .ior => 1
  | .ixor => 1
  | .ishl => 1
  | .ishr => 1
  | .iushr => 1
  | .ladd => 1
  | .lsub => 1
  | .lmul => 1
  | .lcmp => 1
  | .idiv => 1
  | .irem => 1
  | .ldiv => 1
  | .lrem => 1
  | .ineg => 1
  | .lneg => 1
  | .i2l => 1
  | .l2i => 1
  | .i2b => 1
  | .i2c => 1
  | .dup => 1
  | .pop => 1
  | .dup_x1 => 1
  | .dup_x2 => 1
  | .dup2 => 1
  | .ifCond _ _ => 3
  | .if_icmp _ _ => 3
  | .goto _ => 3
  | .ifnull _ => 3
  | .ifnonnull _ => 3
  | .getfield _ => 3
  | .putfield _ => 3
  | .getstatic _ => 3
  | .new _ => 3
  | .newarray _ => 2
  | .anewarray _ => 3
  | .checkcast _ => 3
  | .arraylength => 1
  | .iaload => 1
  | .baload => 1
  | .caload => 1
  | .laload => 1
  | .aaload => 1
  | .iastore => 1
  | .bastore => 1
  | .castore => 1
  | .lastore => 1
  | .aastore => 1
  | .invokevirtual _ => 3
  | .invokespecial _ => 3
  | .invokestatic _ => 3
  | .ireturn => 1
  | .lreturn => 1
  | .areturn => 1
  | .return_ => 1
  | .athrow => 1
  | .ldc _ => 2
  | .ldc_w _ => 3
  | .ldc2_w _ => 3
  | .if_acmp _ _ => 3
  | _ => 0
/-- where a branch goes -/
def ab_off (i : Instr) : Option Int := match i with
  | .ifCond _ off => some off
  | .if_icmp _ off => some off
  | .if_acmp _ off => some off
  | .goto off => some off
  | .ifnull off => some off
  | .ifnonnull off => some off
  | _ => none
/-- instructions that touch locals and stack alone -/
def ab_s1 (nL : Nat) (i : Instr) (pc tg : Nat) (L : ab_L) (S : List Value) : Option (Nat × ab_L × List Value) := match i with
  | .iconst n => some (pc + 1, L, .int (Int32.ofInt n) :: S)
  | .bipush n => some (pc + 2, L, .int (Int8.ofInt n).toInt32 :: S)
  | .sipush n => some (pc + 3, L, .int (Int16.ofInt n).toInt32 :: S)
  | .lconst n => some (pc + 1, L, .long (Int64.ofNat (n : Nat)) :: S)
  | .aconst_null => some (pc + 1, L, .null :: S)
  | .iload_n n => (match ab_get L n with | some (.int x) => some (pc + 1, L, .int x :: S) | _ => none)
  | .iload n => (match ab_get L n with | some (.int x) => some (pc + 2, L, .int x :: S) | _ => none)
  | .lload_n n => (match ab_get L n with | some (.long x) => some (pc + 1, L, .long x :: S) | _ => none)
  | .lload n => (match ab_get L n with | some (.long x) => some (pc + 2, L, .long x :: S) | _ => none)
  | .aload_n n => (match ab_get L n with | some (.ref x) => some (pc + 1, L, .ref x :: S) | some (.float x) => some (pc + 1, L, .float x :: S) | some .null => some (pc + 1, L, .null :: S) | _ => none)
  | .aload n => (match ab_get L n with | some (.ref x) => some (pc + 2, L, .ref x :: S) | some (.float x) => some (pc + 2, L, .float x :: S) | some .null => some (pc + 2, L, .null :: S) | _ => none)
  | .istore_n n => (match S with | .int x :: r => if (n : Nat) < nL then some (pc + 1, ab_put1 L n (.int x), r) else none | _ => none)
  | .istore n => (match S with | .int x :: r => if (n : Nat) < nL then some (pc + 2, ab_put1 L n (.int x), r) else none | _ => none)
  | .lstore_n n => (match S with | .long x :: r => if (n : Nat) + 1 < nL then some (pc + 1, ab_put2 L n (.long x), r) else none | _ => none)
  | .lstore n => (match S with | .long x :: r => if (n : Nat) + 1 < nL then some (pc + 2, ab_put2 L n (.long x), r) else none | _ => none)
  | .astore_n n => (match S with | .ref x :: r => if (n : Nat) < nL then some (pc + 1, ab_put1 L n (.ref x), r) else none | .float x :: r => if (n : Nat) < nL then some (pc + 1, ab_put1 L n (.float x), r) else none | .null :: r => if (n : Nat) < nL then some (pc + 1, ab_put1 L n .null, r) else none | _ => none)
  | .astore n => (match S with | .ref x :: r => if (n : Nat) < nL then some (pc + 2, ab_put1 L n (.ref x), r) else none | .float x :: r => if (n : Nat) < nL then some (pc + 2, ab_put1 L n (.float x), r) else none | .null :: r => if (n : Nat) < nL then some (pc + 2, ab_put1 L n .null, r) else none | _ => none)
  | .iinc n z => (match ab_get L n with | some (.int x) => if n < nL then some (pc + 3, ab_put1 L n (.int (x + Int32.ofInt z)), S) else none | _ => none)
  | .iadd => (match S with | .int y :: .int x :: r => some (pc + 1, L, .int (x + y) :: r) | _ => none)
  | .isub => (match S with | .int y :: .int x :: r => some (pc + 1, L, .int (x - y) :: r) | _ => none)
  | .imul => (match S with | .int y :: .int x :: r => some (pc + 1, L, .int (x * y) :: r) | _ => none)
  | .iand => (match S with | .int y :: .int x :: r => some (pc + 1, L, .int (x &&& y) :: r) | _ => none)
  | .ior => (match S with | .int y :: .int x :: r => some (pc + 1, L, .int (x ||| y) :: r) | _ => none)
  | .ixor => (match S with | .int y :: .int x :: r => some (pc + 1, L, .int (x ^^^ y) :: r) | _ => none)
  | .ishl => (match S with | .int y :: .int x :: r => some (pc + 1, L, .int (x <<< (y &&& 31)) :: r) | _ => none)
  | .ishr => (match S with | .int y :: .int x :: r => some (pc + 1, L, .int (x >>> (y &&& 31)) :: r) | _ => none)
  | .iushr => (match S with | .int y :: .int x :: r => some (pc + 1, L, .int ((x.toUInt32 >>> (y.toUInt32 &&& Int32.toUInt32 31)).toInt32) :: r) | _ => none)
  | .ladd => (match S with | .long y :: .long x :: r => some (pc + 1, L, .long (x + y) :: r) | _ => none)
  | .lsub => (match S with | .long y :: .long x :: r => some (pc + 1, L, .long (x - y) :: r) | _ => none)
  | .lmul => (match S with | .long y :: .long x :: r => some (pc + 1, L, .long (x * y) :: r) | _ => none)
  | .lcmp => (match S with | .long y :: .long x :: r => some (pc + 1, L, .int (lg_cmp x y) :: r) | _ => none)
  | .idiv => (match S with | .int y :: .int x :: r => if y = 0 then none else some (pc + 1, L, .int (x / y) :: r) | _ => none)
  | .irem => (match S with | .int y :: .int x :: r => if y = 0 then none else some (pc + 1, L, .int (x - x / y * y) :: r) | _ => none)
  | .ldiv => (match S with | .long y :: .long x :: r => if y = 0 then none else some (pc + 1, L, .long (x / y) :: r) | _ => none)
  | .lrem => (match S with | .long y :: .long x :: r => if y = 0 then none else some (pc + 1, L, .long (x - x / y * y) :: r) | _ => none)
  | .ineg => (match S with | .int x :: r => some (pc + 1, L, .int (-x) :: r) | _ => none)
  | .lneg => (match S with | .long x :: r => some (pc + 1, L, .long (-x) :: r) | _ => none)
  | .i2l => (match S with | .int x :: r => some (pc + 1, L, .long (x.toInt64) :: r) | _ => none)
  | .l2i => (match S with | .long x :: r => some (pc + 1, L, .int (x.toInt32) :: r) | _ => none)
  | .i2b => (match S with | .int x :: r => some (pc + 1, L, .int (x.toInt8.toInt32) :: r) | _ => none)
  | .i2c => (match S with | .int x :: r => some (pc + 1, L, .int ((x.toUInt32 % 65536).toInt32) :: r) | _ => none)
  | .dup => (match S with | a :: r => if a.category = 1 then some (pc + 1, L, a :: a :: r) else none | _ => none)
  | .pop => (match S with | a :: r => if a.category = 1 then some (pc + 1, L, r) else none | _ => none)
  | .dup_x1 => (match S with | a :: b :: r => if a.category = 1 ∧ b.category = 1 then some (pc + 1, L, a :: b :: a :: r) else none | _ => none)
  | .dup_x2 => (match S with | a :: b :: d :: r => if a.category = 1 ∧ b.category = 1 ∧ d.category = 1 then some (pc + 1, L, a :: b :: d :: a :: r) else none | _ => none)
  | .dup2 => (match S with | a :: b :: r => if a.category = 1 ∧ b.category = 1 then some (pc + 1, L, a :: b :: a :: b :: r) else none | _ => none)
  | .ifCond .eq off => (match S with | .int x :: r => some (if x = 0 then tg else pc + 3, L, r) | _ => none)
  | .if_icmp .eq off => (match S with | .int y :: .int x :: r => some (if x = y then tg else pc + 3, L, r) | _ => none)
  | .ifCond .ne off => (match S with | .int x :: r => some (if x = 0 then pc + 3 else tg, L, r) | _ => none)
  | .if_icmp .ne off => (match S with | .int y :: .int x :: r => some (if x = y then pc + 3 else tg, L, r) | _ => none)
  | .ifCond .lt off => (match S with | .int x :: r => some (if x < 0 then tg else pc + 3, L, r) | _ => none)
  | .if_icmp .lt off => (match S with | .int y :: .int x :: r => some (if x < y then tg else pc + 3, L, r) | _ => none)
  | .ifCond .ge off => (match S with | .int x :: r => some (if 0 ≤ x then tg else pc + 3, L, r) | _ => none)
  | .if_icmp .ge off => (match S with | .int y :: .int x :: r => some (if y ≤ x then tg else pc + 3, L, r) | _ => none)
  | .ifCond .gt off => (match S with | .int x :: r => some (if 0 < x then tg else pc + 3, L, r) | _ => none)
  | .if_icmp .gt off => (match S with | .int y :: .int x :: r => some (if y < x then tg else pc + 3, L, r) | _ => none)
  | .ifCond .le off => (match S with | .int x :: r => some (if x ≤ 0 then tg else pc + 3, L, r) | _ => none)
  | .if_icmp .le off => (match S with | .int y :: .int x :: r => some (if x ≤ y then tg else pc + 3, L, r) | _ => none)
  | .goto off => some (tg, L, S)
  | .ifnull off => (match S with | .ref _ :: r => some (pc + 3, L, r) | .float _ :: r => some (pc + 3, L, r) | .null :: r => some (tg, L, r) | _ => none)
  | .ifnonnull off => (match S with | .ref _ :: r => some (tg, L, r) | .float _ :: r => some (tg, L, r) | .null :: r => some (pc + 3, L, r) | _ => none)
  | _ => none
section AB1
variable {p : Program} {l : Launch} {e : Env} {R : Room} {s : State} {m : MethodId} {args : Array Value} {below : List Frame} {meth : Method} {c : Code} {H : Heap} {locs : List Loc} {cells slots : Nat} {Q : State → Prop}
variable {cc : ByteArray} {pc pc' tg nL len B : Nat} {od : Nat → Nat} {L L' : ab_L} {S S' : List Value} {i : Instr} {ls : Array Slot}
set_option maxHeartbeats 4000000 in
theorem ab_s1_ok (hx : p.tables.exec = Jvm.exec) (hb : c.code = cc) (hdg : decode cc pc = .ok (i, len)) (hlen : ab_len i = 0 ∨ len = ab_len i) (htg0 : ∀ off, ab_off i = some off → (pc : Int) + off = (tg : Int))
    (hs : ab_s1 nL i pc tg L S = some (pc', L', S')) (hl : lv_has ls nL (ab_m B od L))
    (k : ∀ ls' : Array Slot, lv_has ls' nL (ab_m B od L') → W p l e R s m args below meth c H locs cells slots Q (F0 m pc' ls' (S'.map (ab_v B od)))) :
    W p l e R s m args below meth c H locs cells slots Q (F0 m pc ls (S.map (ab_v B od))) := by
  rcases hlen with hlen | hlen
  · cases i
    all_goals first | (simp only [ab_s1] at hs; cases hs; done) | (revert hlen; simp [ab_len]; done)
  subst hlen
  cases i
  case iconst n =>
    simp only [ab_s1] at hs
    cases hs
    exact lv_iconst hx hb hdg rfl (k ls hl)
  case bipush n =>
    simp only [ab_s1] at hs
    cases hs
    exact lv_bipush hx hb hdg rfl (k ls hl)
  case sipush n =>
    simp only [ab_s1] at hs
    cases hs
    exact lv_sipush hx hb hdg rfl (k ls hl)
  case lconst n =>
    simp only [ab_s1] at hs
    cases hs
    exact lv_lconst hx hb hdg rfl (k ls hl)
  case aconst_null =>
    simp only [ab_s1] at hs
    cases hs
    exact lv_null hx hb hdg (k ls hl)
  case iload_n n =>
    simp only [ab_s1] at hs
    split at hs
    · rename_i x hg
      cases hs
      exact lv_iload_n hx hb hdg rfl (ab_at hl hg) (k ls hl)
    · cases hs
  case iload n =>
    simp only [ab_s1] at hs
    split at hs
    · rename_i x hg
      cases hs
      exact lv_iload hx hb hdg (ab_at hl hg) (k ls hl)
    · cases hs
  case lload_n n =>
    simp only [ab_s1] at hs
    split at hs
    · rename_i x hg
      cases hs
      exact lv_lload_n hx hb hdg rfl (ab_at hl hg) (k ls hl)
    · cases hs
  case lload n =>
    simp only [ab_s1] at hs
    split at hs
    · rename_i x hg
      cases hs
      exact lv_lload hx hb hdg (ab_at hl hg) (k ls hl)
    · cases hs
  case aload_n n =>
    simp only [ab_s1] at hs
    split at hs
    · rename_i x hg
      cases hs
      exact lv_aload_n hx hb hdg rfl (ab_at hl hg) (k ls hl)
    · rename_i x hg
      cases hs
      exact lv_aload_n hx hb hdg rfl (ab_at hl hg) (k ls hl)
    · rename_i hg
      cases hs
      exact lv_aload_nN hx hb hdg rfl (ab_at hl hg) (k ls hl)
    · cases hs
  case aload n =>
    simp only [ab_s1] at hs
    split at hs
    · rename_i x hg
      cases hs
      exact lv_aload hx hb hdg (ab_at hl hg) (k ls hl)
    · rename_i x hg
      cases hs
      exact lv_aload hx hb hdg (ab_at hl hg) (k ls hl)
    · rename_i hg
      cases hs
      exact lv_aloadN hx hb hdg (ab_at hl hg) (k ls hl)
    · cases hs
  case istore_n n =>
    simp only [ab_s1] at hs
    split at hs
    · rename_i x r
      split at hs
      · rename_i hn
        cases hs
        exact lv_istore_n hx hb hdg rfl hl hn (ab_m_put1 B od L _ (.int x)) (fun ls' hl' => k ls' hl')
      · cases hs
    · cases hs
  case istore n =>
    simp only [ab_s1] at hs
    split at hs
    · rename_i x r
      split at hs
      · rename_i hn
        cases hs
        exact lv_istore hx hb hdg hl hn (ab_m_put1 B od L _ (.int x)) (fun ls' hl' => k ls' hl')
      · cases hs
    · cases hs
  case lstore_n n =>
    simp only [ab_s1] at hs
    split at hs
    · rename_i x r
      split at hs
      · rename_i hn
        cases hs
        exact lv_lstore_n hx hb hdg rfl hl hn (ab_m_put2 B od L _ (.long x)) (fun ls' hl' => k ls' hl')
      · cases hs
    · cases hs
  case lstore n =>
    simp only [ab_s1] at hs
    split at hs
    · rename_i x r
      split at hs
      · rename_i hn
        cases hs
        exact lv_lstore hx hb hdg hl hn (ab_m_put2 B od L _ (.long x)) (fun ls' hl' => k ls' hl')
      · cases hs
    · cases hs
  case astore_n n =>
    simp only [ab_s1] at hs
    split at hs
    · rename_i x r
      split at hs
      · rename_i hn
        cases hs
        exact lv_astore_n hx hb hdg rfl hl hn (ab_m_put1 B od L _ (.ref x)) (fun ls' hl' => k ls' hl')
      · cases hs
    · rename_i x r
      split at hs
      · rename_i hn
        cases hs
        exact lv_astore_n hx hb hdg rfl hl hn (ab_m_put1 B od L _ (.float x)) (fun ls' hl' => k ls' hl')
      · cases hs
    · rename_i r
      split at hs
      · rename_i hn
        cases hs
        exact lv_astore_nN hx hb hdg rfl hl hn (ab_m_put1 B od L _ .null) (fun ls' hl' => k ls' hl')
      · cases hs
    · cases hs
  case astore n =>
    simp only [ab_s1] at hs
    split at hs
    · rename_i x r
      split at hs
      · rename_i hn
        cases hs
        exact lv_astore hx hb hdg hl hn (ab_m_put1 B od L _ (.ref x)) (fun ls' hl' => k ls' hl')
      · cases hs
    · rename_i x r
      split at hs
      · rename_i hn
        cases hs
        exact lv_astore hx hb hdg hl hn (ab_m_put1 B od L _ (.float x)) (fun ls' hl' => k ls' hl')
      · cases hs
    · rename_i r
      split at hs
      · rename_i hn
        cases hs
        exact lv_astoreN hx hb hdg hl hn (ab_m_put1 B od L _ .null) (fun ls' hl' => k ls' hl')
      · cases hs
    · cases hs
  case iinc n z =>
    simp only [ab_s1] at hs
    split at hs
    · rename_i x hg
      split at hs
      · rename_i hn
        cases hs
        obtain ⟨j, hj⟩ := List.getElem?_of_mem (List.mem_map.mpr ⟨(n, Value.int x), ab_get_mem hg, rfl⟩ : (n, ab_v B od (.int x)) ∈ ab_m B od L)
        exact lv_iinc (x := x) hx hb hdg hl hj rfl hn (ab_m_put1 B od L n (.int (x + Int32.ofInt z))) (fun ls' hl' => k ls' hl')
      · cases hs
    · cases hs
  case iadd =>
    simp only [ab_s1] at hs
    split at hs
    · rename_i y x r
      cases hs
      exact lv_iadd hx hb hdg (k ls hl)
    · cases hs
  case isub =>
    simp only [ab_s1] at hs
    split at hs
    · rename_i y x r
      cases hs
      exact lv_isub hx hb hdg (k ls hl)
    · cases hs
  case imul =>
    simp only [ab_s1] at hs
    split at hs
    · rename_i y x r
      cases hs
      exact lv_imul hx hb hdg (k ls hl)
    · cases hs
  case iand =>
    simp only [ab_s1] at hs
    split at hs
    · rename_i y x r
      cases hs
      exact lv_iand hx hb hdg (k ls hl)
    · cases hs
  case ior =>
    simp only [ab_s1] at hs
    split at hs
    · rename_i y x r
      cases hs
      exact lv_ior hx hb hdg (k ls hl)
    · cases hs
  case ixor =>
    simp only [ab_s1] at hs
    split at hs
    · rename_i y x r
      cases hs
      exact lv_ixor hx hb hdg (k ls hl)
    · cases hs
  case ishl =>
    simp only [ab_s1] at hs
    split at hs
    · rename_i y x r
      cases hs
      exact lv_ishl hx hb hdg (k ls hl)
    · cases hs
  case ishr =>
    simp only [ab_s1] at hs
    split at hs
    · rename_i y x r
      cases hs
      exact lv_ishr hx hb hdg (k ls hl)
    · cases hs
  case iushr =>
    simp only [ab_s1] at hs
    split at hs
    · rename_i y x r
      cases hs
      exact lv_iushr hx hb hdg rfl (k ls hl)
    · cases hs
  case ladd =>
    simp only [ab_s1] at hs
    split at hs
    · rename_i y x r
      cases hs
      exact lv_ladd hx hb hdg (k ls hl)
    · cases hs
  case lsub =>
    simp only [ab_s1] at hs
    split at hs
    · rename_i y x r
      cases hs
      exact lv_lsub hx hb hdg (k ls hl)
    · cases hs
  case lmul =>
    simp only [ab_s1] at hs
    split at hs
    · rename_i y x r
      cases hs
      exact lv_lmul hx hb hdg (k ls hl)
    · cases hs
  case lcmp =>
    simp only [ab_s1] at hs
    split at hs
    · rename_i y x r
      cases hs
      exact W.lcmp hx hb hdg (k ls hl)
    · cases hs
  case idiv =>
    simp only [ab_s1] at hs
    split at hs
    · rename_i y x r
      split at hs
      · cases hs
      · rename_i hn
        cases hs
        exact lv_idiv hx hb hdg hn (k ls hl)
    · cases hs
  case irem =>
    simp only [ab_s1] at hs
    split at hs
    · rename_i y x r
      split at hs
      · cases hs
      · rename_i hn
        cases hs
        exact lv_irem hx hb hdg hn (k ls hl)
    · cases hs
  case ldiv =>
    simp only [ab_s1] at hs
    split at hs
    · rename_i y x r
      split at hs
      · cases hs
      · rename_i hn
        cases hs
        exact lv_ldiv hx hb hdg hn (k ls hl)
    · cases hs
  case lrem =>
    simp only [ab_s1] at hs
    split at hs
    · rename_i y x r
      split at hs
      · cases hs
      · rename_i hn
        cases hs
        exact lv_lrem hx hb hdg hn (k ls hl)
    · cases hs
  case ineg =>
    simp only [ab_s1] at hs
    split at hs
    · rename_i x r
      cases hs
      exact lv_ineg hx hb hdg (k ls hl)
    · cases hs
  case lneg =>
    simp only [ab_s1] at hs
    split at hs
    · rename_i x r
      cases hs
      exact lv_lneg hx hb hdg (k ls hl)
    · cases hs
  case i2l =>
    simp only [ab_s1] at hs
    split at hs
    · rename_i x r
      cases hs
      exact lv_i2l hx hb hdg rfl (k ls hl)
    · cases hs
  case l2i =>
    simp only [ab_s1] at hs
    split at hs
    · rename_i x r
      cases hs
      exact lv_l2i hx hb hdg rfl (k ls hl)
    · cases hs
  case i2b =>
    simp only [ab_s1] at hs
    split at hs
    · rename_i x r
      cases hs
      exact lv_i2b hx hb hdg rfl (k ls hl)
    · cases hs
  case i2c =>
    simp only [ab_s1] at hs
    split at hs
    · rename_i x r
      cases hs
      exact lv_i2c hx hb hdg rfl (k ls hl)
    · cases hs
  case dup =>
    simp only [ab_s1] at hs
    split at hs
    · rename_i a r
      split at hs
      · rename_i hc
        have w0 := hc
        cases hs
        exact lv_dup hx hb hdg (by rw [ab_v_cat]; exact w0) (k ls hl)
      · cases hs
    · cases hs
  case pop =>
    simp only [ab_s1] at hs
    split at hs
    · rename_i a r
      split at hs
      · rename_i hc
        have w0 := hc
        cases hs
        exact lv_pop hx hb hdg (by rw [ab_v_cat]; exact w0) (k ls hl)
      · cases hs
    · cases hs
  case dup_x1 =>
    simp only [ab_s1] at hs
    split at hs
    · rename_i a b r
      split at hs
      · rename_i hc
        obtain ⟨w0, w1⟩ := hc
        cases hs
        exact lv_dup_x1 hx hb hdg (by rw [ab_v_cat]; exact w0) (by rw [ab_v_cat]; exact w1) (k ls hl)
      · cases hs
    · cases hs
  case dup_x2 =>
    simp only [ab_s1] at hs
    split at hs
    · rename_i a b d r
      split at hs
      · rename_i hc
        obtain ⟨w0, w1, w2⟩ := hc
        cases hs
        exact lv_dup_x2 hx hb hdg (by rw [ab_v_cat]; exact w0) (by rw [ab_v_cat]; exact w1) (by rw [ab_v_cat]; exact w2) (k ls hl)
      · cases hs
    · cases hs
  case dup2 =>
    simp only [ab_s1] at hs
    split at hs
    · rename_i a b r
      split at hs
      · rename_i hc
        obtain ⟨w0, w1⟩ := hc
        cases hs
        exact lv_dup2_11 hx hb hdg (by rw [ab_v_cat]; exact w0) (by rw [ab_v_cat]; exact w1) (k ls hl)
      · cases hs
    · cases hs
  case goto off =>
    have htg := htg0 _ rfl
    simp only [ab_s1] at hs
    cases hs
    exact lv_goto hx hb hdg htg (k ls hl)
  case ifnull off =>
    have htg := htg0 _ rfl
    simp only [ab_s1] at hs
    split at hs
    · rename_i x r
      cases hs
      exact lv_ifnull hx hb hdg (k ls hl)
    · rename_i x r
      cases hs
      exact lv_ifnull hx hb hdg (k ls hl)
    · rename_i r
      cases hs
      exact lv_ifnullN hx hb hdg htg (k ls hl)
    · cases hs
  case ifnonnull off =>
    have htg := htg0 _ rfl
    simp only [ab_s1] at hs
    split at hs
    · rename_i x r
      cases hs
      exact lv_ifnonnull hx hb hdg htg (k ls hl)
    · rename_i x r
      cases hs
      exact lv_ifnonnull hx hb hdg htg (k ls hl)
    · rename_i r
      cases hs
      exact lv_ifnonnullN hx hb hdg (k ls hl)
    · cases hs
  case ifCond cd off =>
    have htg := htg0 _ rfl
    cases cd
    case eq =>
      simp only [ab_s1] at hs
      split at hs
      · rename_i x r
        cases hs
        exact lv_if_eq hx hb hdg htg (fun hc => by have k1 := k ls hl; rw [if_pos hc] at k1; exact k1) (fun hc => by have k1 := k ls hl; rw [if_neg hc] at k1; exact k1)
      · cases hs
    case ne =>
      simp only [ab_s1] at hs
      split at hs
      · rename_i x r
        cases hs
        exact lv_if_ne hx hb hdg htg (fun hc => by have k1 := k ls hl; rw [if_neg hc] at k1; exact k1) (fun hc => by have k1 := k ls hl; rw [if_pos hc] at k1; exact k1)
      · cases hs
    case lt =>
      simp only [ab_s1] at hs
      split at hs
      · rename_i x r
        cases hs
        exact lv_if_lt hx hb hdg htg (fun hc => by have k1 := k ls hl; rw [if_pos hc] at k1; exact k1) (fun hc => by have k1 := k ls hl; rw [if_neg hc] at k1; exact k1)
      · cases hs
    case ge =>
      simp only [ab_s1] at hs
      split at hs
      · rename_i x r
        cases hs
        exact lv_if_ge hx hb hdg htg (fun hc => by have k1 := k ls hl; rw [if_pos hc] at k1; exact k1) (fun hc => by have k1 := k ls hl; rw [if_neg hc] at k1; exact k1)
      · cases hs
    case gt =>
      simp only [ab_s1] at hs
      split at hs
      · rename_i x r
        cases hs
        exact lv_if_gt hx hb hdg htg (fun hc => by have k1 := k ls hl; rw [if_pos hc] at k1; exact k1) (fun hc => by have k1 := k ls hl; rw [if_neg hc] at k1; exact k1)
      · cases hs
    case le =>
      simp only [ab_s1] at hs
      split at hs
      · rename_i x r
        cases hs
        exact lv_if_le hx hb hdg htg (fun hc => by have k1 := k ls hl; rw [if_pos hc] at k1; exact k1) (fun hc => by have k1 := k ls hl; rw [if_neg hc] at k1; exact k1)
      · cases hs
  case if_icmp cd off =>
    have htg := htg0 _ rfl
    cases cd
    case eq =>
      simp only [ab_s1] at hs
      split at hs
      · rename_i y x r
        cases hs
        exact lv_icmp_eq hx hb hdg htg (fun hc => by have k1 := k ls hl; rw [if_pos hc] at k1; exact k1) (fun hc => by have k1 := k ls hl; rw [if_neg hc] at k1; exact k1)
      · cases hs
    case ne =>
      simp only [ab_s1] at hs
      split at hs
      · rename_i y x r
        cases hs
        exact lv_icmp_ne hx hb hdg htg (fun hc => by have k1 := k ls hl; rw [if_neg hc] at k1; exact k1) (fun hc => by have k1 := k ls hl; rw [if_pos hc] at k1; exact k1)
      · cases hs
    case lt =>
      simp only [ab_s1] at hs
      split at hs
      · rename_i y x r
        cases hs
        exact lv_icmp_lt hx hb hdg htg (fun hc => by have k1 := k ls hl; rw [if_pos hc] at k1; exact k1) (fun hc => by have k1 := k ls hl; rw [if_neg hc] at k1; exact k1)
      · cases hs
    case ge =>
      simp only [ab_s1] at hs
      split at hs
      · rename_i y x r
        cases hs
        exact lv_icmp_ge hx hb hdg htg (fun hc => by have k1 := k ls hl; rw [if_pos hc] at k1; exact k1) (fun hc => by have k1 := k ls hl; rw [if_neg hc] at k1; exact k1)
      · cases hs
    case gt =>
      simp only [ab_s1] at hs
      split at hs
      · rename_i y x r
        cases hs
        exact lv_icmp_gt hx hb hdg htg (fun hc => by have k1 := k ls hl; rw [if_pos hc] at k1; exact k1) (fun hc => by have k1 := k ls hl; rw [if_neg hc] at k1; exact k1)
      · cases hs
    case le =>
      simp only [ab_s1] at hs
      split at hs
      · rename_i y x r
        cases hs
        exact lv_icmp_le hx hb hdg htg (fun hc => by have k1 := k ls hl; rw [if_pos hc] at k1; exact k1) (fun hc => by have k1 := k ls hl; rw [if_neg hc] at k1; exact k1)
      · cases hs
  all_goals (simp only [ab_s1] at hs; cases hs)
end AB1
end
section
/-! the heap's instructions -/
/-- an entry of a class's pool: kind, two numbers, a value. 0 field (class, field); 1 method (number); 2 class (number in cl); 3 constant; 4 static; 5 Object's constructor; 6 array class (place in aty); 7 String constant -/
abbrev ab_N : Type := Nat × Nat × Nat × Value
/-- what a field of this type may hold -/
def ab_ft (ty : FieldType) (v : Value) : Bool := match ty, v with
  | .int, .int _ => true
  | .long, .long _ => true
  | .boolean, .int x => x == 0 || x == 1
  | .object _, .ref _ => true
  | .object _, .float _ => true
  | .object _, .null => true
  | .array _, .ref _ => true
  | .array _, .float _ => true
  | .array _, .null => true
  | _, _ => false
theorem ab_ft_ok {B : Nat} {od : Nat → Nat} {ty : FieldType} {v : Value} (h : ab_ft ty v = true) : narrow ty (ab_v B od v) = ab_v B od v ∧ fits ty (ab_v B od v) = true := by
  cases ty <;> cases v <;> first | (exfalso; revert h; simp [ab_ft]; done) | exact ⟨rfl, rfl⟩ | skip
  all_goals
    simp [ab_ft] at h
    rcases h with rfl | rfl
    · show narrow .boolean (.int 0) = .int 0 ∧ fits .boolean (.int 0) = true
      decide
    · show narrow .boolean (.int 1) = .int 1 ∧ fits .boolean (.int 1) = true
      decide
/-- an index is in range -/
def ab_ix (x : Int32) (n : Nat) : Bool := !(decide (x < 0)) && decide (x.toNatClampNeg < n)
theorem ab_ix_in {x : Int32} {n : Nat} (h : ab_ix x n = true) : ¬ (x < 0 ∨ n ≤ x.toNatClampNeg) := by
  simp [ab_ix] at h
  intro q
  rcases q with q | q
  · exact absurd q (by have := h.1; simpa using this)
  · omega
def ab_ald (aty : List FieldType) (oa : Nat → Option (FieldType × Nat × (Nat → Value))) (ty : FieldType) (pc : Nat) (S : List Value) (h : ab_H) : Option (Nat × List Value × ab_H) := match S with
  | .int x :: .ref j :: r => (match h[j]? with
    | some (.inl (t, n, f)) => if aty[t]? = some ty ∧ ab_ix x n = true then some (pc + 1, f x.toNatClampNeg :: r, h) else none
    | _ => none)
  | .int x :: .float w :: r => (match oa w.toNat with
    | some (t, n, f) => if t = ty ∧ ab_ix x n = true then some (pc + 1, f x.toNatClampNeg :: r, h) else none
    | _ => none)
  | _ => none
def ab_isR (ty : FieldType) : Bool := match ty with
  | .object _ => true
  | _ => false
def ab_s2 (cl : List vw_C) (ct : Nat → Nat → FieldType) (cd : Nat → List Value) (aty : List FieldType) (oa : Nat → Option (FieldType × Nat × (Nat → Value))) (NC NS : Nat) (pl : Nat → Option ab_N) (ini : Bool) (i : Instr) (pc : Nat) (S : List Value) (h : ab_H) : Option (Nat × List Value × ab_H) := match i with
  | .getfield x => (match pl x, S with
    | some (k0, a, b, _), .ref j :: r => (match h[j]? with
      | some (.inr (ci, fs)) => if (k0 = 0 ∨ k0 = 8) ∧ ci = a then (match fs[b]? with | some v => some (pc + 3, v :: r, h) | none => none) else none
      | _ => none)
    | _, _ => none)
  | .putfield x => (match pl x, S with
    | some (k0, a, b, fl), v :: .ref j :: r => (match h[j]? with
      | some (.inr (ci, fs)) => if (k0 = 0 ∨ k0 = 8) ∧ ci = a ∧ b < fs.length ∧ ab_ft (ct ci b) v = true ∧ (((cl[ci]?).map (fun q => (q.2.1 b).2.2.2)) = some false ∨ (k0 = 0 ∧ ini = true ∧ fl = .int 1)) then some (pc + 3, r, h.set j (.inr (ci, fs.set b v))) else none
      | _ => none)
    | _, _ => none)
  | .iaload => ab_ald aty oa .int pc S h
  | .baload => ab_ald aty oa .byte pc S h
  | .caload => ab_ald aty oa .char pc S h
  | .laload => ab_ald aty oa .long pc S h
  | .aaload => (match S with
    | .int x :: .ref j :: r => (match h[j]? with
      | some (.inl (t, n, f)) => if (aty[t]?).map ab_isR = some true ∧ ab_ix x n = true then some (pc + 1, f x.toNatClampNeg :: r, h) else none
      | _ => none)
    | _ => none)
  | .arraylength => (match S with
    | .ref j :: r => (match h[j]? with
      | some (.inl (t, n, f)) => if t < aty.length then some (pc + 1, .int (Int32.ofNat n) :: r, h) else none
      | _ => none)
    | .float w :: r => (match oa w.toNat with
      | some (_, n, _) => some (pc + 1, .int (Int32.ofNat n) :: r, h)
      | _ => none)
    | _ => none)
  | .iastore => (match S with
    | .int y :: .int x :: .ref j :: r => (match h[j]? with
      | some (.inl (t, n, f)) => if aty[t]? = some .int ∧ ab_ix x n = true then some (pc + 1, r, h.set j (.inl (t, n, updV f x.toNatClampNeg (.int y)))) else none
      | _ => none)
    | _ => none)
  | .bastore => (match S with
    | .int y :: .int x :: .ref j :: r => (match h[j]? with
      | some (.inl (t, n, f)) => if aty[t]? = some .byte ∧ ab_ix x n = true then some (pc + 1, r, h.set j (.inl (t, n, updV f x.toNatClampNeg (.int y.toInt8.toInt32)))) else none
      | _ => none)
    | _ => none)
  | .lastore => (match S with
    | .long y :: .int x :: .ref j :: r => (match h[j]? with
      | some (.inl (t, n, f)) => if aty[t]? = some .long ∧ ab_ix x n = true then some (pc + 1, r, h.set j (.inl (t, n, updV f x.toNatClampNeg (.long y)))) else none
      | _ => none)
    | _ => none)
  | .newarray at_ => (match S with
    | .int x :: r => (match aty.findIdx? (fun q => q == newarray.typeOf at_) with
      | some t => if ¬ x < 0 ∧ x.toNatClampNeg ≤ 65536 ∧ h.length + 1 ≤ NC ∧ ab_sz h + x.toNatClampNeg ≤ NS ∧ at_ ≠ .float then some (pc + 2, .ref h.length :: r, h ++ [.inl (t, x.toNatClampNeg, fun _ => defaultValue (newarray.typeOf at_))]) else none
      | none => none)
    | _ => none)
  | .new x => (match pl x with
    | some (2, ci, _, _) => (match cl[ci]? with
      | some q => if h.length + 1 ≤ NC ∧ ab_sz h + q.2.2 ≤ NS then some (pc + 3, .ref h.length :: S, h ++ [.inr (ci, cd ci)]) else none
      | none => none)
    | _ => none)
  | .ldc x => (match pl x with
    | some (3, _, _, .int v) => some (pc + 2, .int v :: S, h)
    | some (7, _, _, .float w) => some (pc + 2, .float w :: S, h)
    | _ => none)
  | .ldc2_w x => (match pl x with
    | some (3, _, _, .long v) => some (pc + 3, .long v :: S, h)
    | _ => none)
  | _ => none
/-- what the words Ts say of an entry -/
def ab_pe (cl : List vw_C) (Ts : List Cond) (own : String) (x : Nat) (n : ab_N) : Prop := match n with
  | (0, a, b, fl) => ∃ (r : vw_C) (ref : String), cl[a]? = some r ∧ b < r.2.2 ∧ Cond.fieldLink own x ref (r.2.1 b).2.1 (r.2.1 b).2.2.1 ∈ Ts ∧ (ref = (r.2.1 b).1 ∨ Cond.sameField ref (r.2.1 b).1 (r.2.1 b).2.1 (r.2.1 b).2.2.1 ∈ Ts) ∧ (fl = .int 1 → (r.2.1 b).2.2.2 = true ∧ (r.2.1 b).1 = own)
  | (8, a, b, _) => ∃ (r : vw_C) (ref host : String), cl[a]? = some r ∧ b < r.2.2 ∧ Cond.fieldLinkNest own x ref (r.2.1 b).2.1 (r.2.1 b).2.2.1 host ∈ Ts ∧ (ref = (r.2.1 b).1 ∨ Cond.sameField ref (r.2.1 b).1 (r.2.1 b).2.1 (r.2.1 b).2.2.1 ∈ Ts)
  | (2, ci, _, _) => ∃ r : vw_C, cl[ci]? = some r ∧ Cond.classLink own x r.1 ∈ Ts ∧ Cond.instantiable r.1 r.2.2 ∈ Ts ∧ Cond.initialized r.1 ∈ Ts
  | (3, _, _, .int v) => Cond.constant own x v ∈ Ts
  | (3, _, _, .long v) => Cond.constantLong own x v ∈ Ts
  | _ => True
theorem ab_same {Ts : List Cond} {s : State} (hTs : ∀ w ∈ Ts, va_Nw w s) {ref O n d : String} (h : ref = O ∨ Cond.sameField ref O n d ∈ Ts) : ∀ z, s.fieldFound? O n d = some z → s.fieldFound? ref n d = some z := by
  intro z hz
  rcases h with rfl | h
  · exact hz
  · exact u_same (args := #[]) (va_Nw.use rfl (hTs _ h)) z hz
/-- the classes: what is fixed, and what the tables say -/
def ab_CS (cl : List vw_C) (ct : Nat → Nat → FieldType) (cd : Nat → List Value) : Prop := ∀ (ci : Nat) (r : vw_C), cl[ci]? = some r →
  (∀ k, k < r.2.2 → parseFieldDescriptor (r.2.1 k).2.2.1 = some (ct ci k)) ∧ (∀ a, a < r.2.2 → ∀ b, b < r.2.2 → a ≠ b → (r.2.1 a).2.1 ≠ (r.2.1 b).2.1) ∧ (∀ j, j < r.2.2 → defaultValue (ct ci j) = vp_V (cd ci) j) ∧ (cd ci).length = r.2.2 ∧ (∀ v ∈ cd ci, ∀ (B : Nat) (od : Nat → Nat), ab_v B od v = v)
def ab_KC (D : va_G) (cl : List vw_C) (s : State) : Prop := ∀ (ci : Nat) (r : vw_C), cl[ci]? = some r → u_Kn s r.1 r.2.1 r.2.2 (D.1 ci) (D.2 ci) ∧ ∀ (A : Array Value), ∀ w ∈ u_ws r.1 r.2.1 r.2.2, w.before A s = true
def ab_KA (dA : Nat → ClassId) (aty : List FieldType) (s : State) : Prop := ∀ (t : Nat) (ty : FieldType), aty[t]? = some ty → ArrOfT s (dA t) ty ∧ va_RA s (dA t) ty ∧ ((∃ x, newarray.typeOf x = ty) → (Cond.arrayClass ty).before #[] s = true)
def ab_OA (B : Nat) (od : Nat → Nat) (oa : Nat → Option (FieldType × Nat × (Nat → Value))) (s : State) (H : Heap) : Prop := ∀ (w : Nat) (t : FieldType) (n : Nat) (f : Nat → Value), oa w = some (t, n, f) → od w < B ∧ ∃ cell : Cell, H[od w]? = some cell ∧ s.isArrayOf cell t ∧ cell.vm ≠ .unknown ∧ (n ≤ cell.slots.size ∧ cell.slots.size.toInt32 = Int32.ofNat n) ∧ ∀ j, j < n → cell.slots[j]? = some (ab_v B od (f j))
section AB2
variable {p : Program} {l : Launch} {e : Env} {R : Room} {s : State} {m : MethodId} {args : Array Value} {below : List Frame} {meth : Method} {c : Code} {H : Heap} {locs : List Loc} {cells slots : Nat} {Q : State → Prop}
variable {cc : ByteArray} {pc pc' nL len B n0 z0 NC NS : Nat} {od : Nat → Nat} {S S' : List Value} {h h' : ab_H} {i : Instr} {ls : Array Slot} {own : String}
variable {D : va_G} {dA : Nat → ClassId} {cl : List vw_C} {ct : Nat → Nat → FieldType} {cd : Nat → List Value} {aty : List FieldType} {oa : Nat → Option (FieldType × Nat × (Nat → Value))} {pl : Nat → Option ab_N} {ini : Bool} {Ts : List Cond}
/-- an object's field is read -/
theorem ab_getf (hx : p.tables.exec = Jvm.exec) (hb : c.code = cc) (hown : s.vm.findClass own = some m.cls) (hTs : ∀ w ∈ Ts, va_Nw w s) (hKC : ab_KC D cl s) (hR : ab_R B od D dA cl NC NS s.heap n0 z0 h H locs cells slots)
    {x k0 a b j : Nat} {fl v : Value} {fs r : List Value} (hk0 : k0 = 0 ∨ k0 = 8) (hp : ab_pe cl Ts own x (k0, a, b, fl)) (hj : h[j]? = some (.inr (a, fs))) (hv : fs[b]? = some v) (hdg : decode cc pc = .ok (.getfield x, 3))
    (k : W p l e R s m args below meth c H locs cells slots Q (F0 m (pc + 3) ls (ab_v B od v :: r))) : W p l e R s m args below meth c H locs cells slots Q (F0 m pc ls (.ref (B + j) :: r)) := by
  obtain ⟨r1, hc1, cell, q1, q2, q3, q4⟩ := hR.1 j _ hj
  obtain ⟨hKn, hws⟩ := hKC a r1 hc1
  obtain ⟨hS, hfc, kC, hkC, hkind⟩ := hKn
  have hsl : ∀ (bb : Nat), bb < r1.2.2 → bb = b → ∃ (cf : Nat) (kf : Class) (fi : Nat) (f : Field), s.fieldFound? (r1.2.1 bb).1 (r1.2.1 bb).2.1 (r1.2.1 bb).2.2.1 = some (cf, kf, fi, f) ∧ f.isStatic = false ∧ cell.slots[f.slot]? = some (ab_v B od v) := by
    intro bb hbb e1
    subst e1
    obtain ⟨cf, kf, fi, f, hi, hsl⟩ := hS bb hbb
    refine ⟨cf, kf, fi, f, hi, (u_facts hfc hkC (u_lays (hws args) (fun w hw => hw) hbb) hi).1, ?_⟩
    rw [hsl, q4 bb hbb]
    simp [vp_V, hv]
  rcases hk0 with rfl | rfl
  · obtain ⟨r2, ref, hc2, hb2, hl2, hs2, -⟩ := hp
    cases hc1.symm.trans hc2
    obtain ⟨cf, kf, fi, f, hi, hst, hval⟩ := hsl b hb2 rfl
    exact W.getf hx hb hown (va_Nw.use rfl (hTs _ hl2)) (ab_same hTs hs2 _ hi) hst q1 (by rw [q3]; exact fun h => by cases h) hval rfl rfl hdg k
  · obtain ⟨r2, ref, host, hc2, hb2, hl2, hs2⟩ := hp
    cases hc1.symm.trans hc2
    obtain ⟨cf, kf, fi, f, hi, hst, hval⟩ := hsl b hb2 rfl
    exact va_Wgetf hx hb hown (va_Nw.use rfl (hTs _ hl2)) (ab_same hTs hs2 _ hi) hst q1 (by rw [q3]; exact fun h => by cases h) hval rfl rfl hdg k
theorem ab_putf (hx : p.tables.exec = Jvm.exec) (hb : c.code = cc) (hown : s.vm.findClass own = some m.cls) (hTs : ∀ w ∈ Ts, va_Nw w s) (hKC : ab_KC D cl s) (hCS : ab_CS cl ct cd) (hR : ab_R B od D dA cl NC NS s.heap n0 z0 h H locs cells slots) (hini : ini = true → meth.name = "<init>")
    {x k0 a b j : Nat} {fl v : Value} {fs r : List Value} (hk0 : k0 = 0 ∨ k0 = 8) (hp : ab_pe cl Ts own x (k0, a, b, fl)) (hj : h[j]? = some (.inr (a, fs))) (hbl : b < fs.length) (hft : ab_ft (ct a b) v = true)
    (hfin : ((cl[a]?).map (fun q => (q.2.1 b).2.2.2)) = some false ∨ (k0 = 0 ∧ ini = true ∧ fl = .int 1)) (hdg : decode cc pc = .ok (.putfield x, 3))
    (k : ∀ (H1 : Heap) (locs1 : List Loc), ab_R B od D dA cl NC NS s.heap n0 z0 (h.set j (.inr (a, fs.set b v))) H1 locs1 cells slots → W p l e R s m args below meth c H1 locs1 cells slots Q (F0 m (pc + 3) ls r)) : W p l e R s m args below meth c H locs cells slots Q (F0 m pc ls (ab_v B od v :: .ref (B + j) :: r)) := by
  obtain ⟨r1, hc1, cell, q1, q2, q3, q4⟩ := hR.1 j _ hj
  obtain ⟨hKn, hws⟩ := hKC a r1 hc1
  obtain ⟨c1, c2, c3, c4, -⟩ := hCS a r1 hc1
  have hKn2 := hKn
  obtain ⟨hS, hfc, kC, hkC, hkind⟩ := hKn
  obtain ⟨hn, hfit⟩ := ab_ft_ok (B := B) (od := od) hft
  have hap : ∀ x y, x < r1.2.2 → y < r1.2.2 → x ≠ y → (D.2 a) x ≠ (D.2 a) y := by
    intro x y hx hy hne
    obtain ⟨_, _, _, fa, hia, ea⟩ := hS x hx
    obtain ⟨_, _, _, fb, hib, eb⟩ := hS y hy
    rw [← ea, ← eb]
    refine u_apart (u_lays (hws args) (fun w hw => hw) hx) (u_lays (hws args) (fun w hw => hw) hy) hia hib ?_
    rw [(State.fieldFound?_type hia (c1 x hx)).1, (State.fieldFound?_type hib (c1 y hy)).1]
    exact c2 x hx y hy hne
  have fin : ∀ (hb2 : b < r1.2.2) (H1 : Heap), H1[B + j]? = some (cell.setSlot (D.2 a b) (ab_v B od v)) → H1.size = H.size → (∀ q, q ≠ B + j → H1[q]? = H[q]?) → ab_R B od D dA cl NC NS s.heap n0 z0 (h.set j (.inr (a, fs.set b v))) H1 (locs ++ [⟨B + j, D.2 a b⟩]) cells slots := by
    intro hb2 H1 e1 e2 e3
    refine hR.set hj (by simp [ab_sz1]) ⟨r1, hc1, ?_⟩ e2 e3
    refine t_OB.to (V := updV (vp_V (fs.map (ab_v B od))) b (ab_v B od v)) ⟨_, e1, q2, q3, t_set q4 hap hb2 _⟩ (fun jj _ => ?_)
    rw [vp_updV_set (by simpa using hbl), List.map_set]
  rcases hk0 with rfl | rfl
  · obtain ⟨r2, ref, hc2, hb2, hl2, hs2, hf2⟩ := hp
    cases hc1.symm.trans hc2
    obtain ⟨cf, kf, fi, f, hi, hsl⟩ := hS b hb2
    have hst := (u_facts hfc hkC (u_lays (hws args) (fun w hw => hw) hb2) hi).1
    have hlay := hws args _ (u_in_lay hb2)
    unfold u_lay at hlay
    rcases hfin with hfin | ⟨-, hi1, hf1⟩
    · have hff : (r1.2.1 b).2.2.2 = false := by rw [hc1] at hfin; simpa using hfin
      rw [if_neg (by rw [hff]; decide)] at hlay
      have h6 := u_store hfc hkC hkind hlay hi (c1 b hb2) hn hfit
      refine W.putK hx hb (f := f) ⟨hown, va_Nw.use rfl (hTs _ hl2), ⟨_, _, _, ab_same hTs hs2 _ hi⟩, hst⟩ (by rw [q2]; exact h6) q1 q3 (by rw [hsl]; exact k2_hasslot (q4 b hb2)) rfl rfl hdg fun H' e1 e2 e3 => ?_
      rw [hsl] at e1 ⊢
      exact k H' _ (fin hb2 H' e1 e2 e3)
    · obtain ⟨g1, g2⟩ := hf2 hf1
      rw [if_pos g1] at hlay
      have hcf : m.cls = cf := by
        obtain ⟨_, _, c', _, _, _, -, -, hf', -, -, -, hown2, -⟩ := Cond.laysFinal_spec hlay
        have e1 : c' = cf := by have := hi.symm.trans hf'; simp at this; exact this.1.symm
        rw [g2] at hown2
        rw [← e1]; exact Option.some.inj (hown.symm.trans hown2)
      have h6 := u_fits hfc hkC hkind (Or.inr hlay) hi (c1 b hb2) hn hfit
      refine W.putFinK hx hb hown (va_Nw.use rfl (hTs _ hl2)) (ab_same hTs hs2 _ hi) hst hcf (hini hi1) (by rw [q2]; exact h6) q1 q3 (by rw [hsl]; exact k2_hasslot (q4 b hb2)) rfl rfl hdg fun H' e1 e2 e3 => ?_
      rw [hsl] at e1 ⊢
      exact k H' _ (fin hb2 H' e1 e2 e3)
  · obtain ⟨r2, ref, host, hc2, hb2, hl2, hs2⟩ := hp
    cases hc1.symm.trans hc2
    obtain ⟨cf, kf, fi, f, hi, hsl⟩ := hS b hb2
    have hst := (u_facts hfc hkC (u_lays (hws args) (fun w hw => hw) hb2) hi).1
    have hlay := hws args _ (u_in_lay hb2)
    unfold u_lay at hlay
    have hfin : ((cl[a]?).map (fun q => (q.2.1 b).2.2.2)) = some false := by
      rcases hfin with h1 | ⟨h1, -⟩
      · exact h1
      · cases h1
    have hff : (r1.2.1 b).2.2.2 = false := by rw [hc1] at hfin; simpa using hfin
    rw [if_neg (by rw [hff]; decide)] at hlay
    have h6 := u_store hfc hkC hkind hlay hi (c1 b hb2) hn hfit
    refine va_WputK hx hb (f := f) hown (va_Nw.use rfl (hTs _ hl2)) (ab_same hTs hs2 _ hi) hst (by rw [q2]; exact h6) q1 q3 (by rw [hsl]; exact k2_hasslot (q4 b hb2)) rfl rfl hdg fun H' e1 e2 e3 => ?_
    rw [hsl] at e1 ⊢
    exact k H' _ (fin hb2 H' e1 e2 e3)
/-- an array of this activation's is read -/
theorem ab_arr (hKA : ab_KA dA aty s) (hR : ab_R B od D dA cl NC NS s.heap n0 z0 h H locs cells slots) {j t n : Nat} {f : Nat → Value} {ty : FieldType} (hj : h[j]? = some (.inl (t, n, f))) (ht : aty[t]? = some ty) :
    ∃ cell : Cell, H[B + j]? = some cell ∧ s.isArrayOf cell ty ∧ cell.vm ≠ .unknown ∧ (n ≤ cell.slots.size ∧ cell.slots.size.toInt32 = Int32.ofNat n) ∧ ∀ q, q < n → cell.slots[q]? = some (ab_v B od (f q)) := by
  have h1 : H[B + j]? = some (arrV (dA t) n (fun q => ab_v B od (f q))) := hR.1 j _ hj
  exact ⟨_, h1, (hKA t ty ht).1 n _, (fun q => by cases q), ⟨by rw [arrV_size]; exact Nat.le_refl _, by rw [arrV_size]⟩, fun q hq => arrV_read _ _ hq⟩
theorem ab_old (hOA : ab_OA B od oa s s.heap) (hR : ab_R B od D dA cl NC NS s.heap n0 z0 h H locs cells slots) {w n : Nat} {f : Nat → Value} {ty : FieldType} (hw : oa w = some (ty, n, f)) :
    ∃ cell : Cell, H[od w]? = some cell ∧ s.isArrayOf cell ty ∧ cell.vm ≠ .unknown ∧ (n ≤ cell.slots.size ∧ cell.slots.size.toInt32 = Int32.ofNat n) ∧ ∀ q, q < n → cell.slots[q]? = some (ab_v B od (f q)) := by
  obtain ⟨g1, cell, g2, g3⟩ := hOA w ty n f hw
  have g4 := (Array.getElem?_eq_some_iff.mp g2).1
  exact ⟨cell, (hR.2.2.1.2.1 (od w) g4 (by omega)).trans g2, g3⟩
theorem ab_ald_ok (hKA : ab_KA dA aty s) (hOA : ab_OA B od oa s s.heap) (hR : ab_R B od D dA cl NC NS s.heap n0 z0 h H locs cells slots) {ty : FieldType}
    (row : ∀ {a : Addr} {cell : Cell} {j : Int32} {v : Value} {r : List Value}, H[a]? = some cell → s.isArrayOf cell ty → cell.vm ≠ .unknown → ¬ (j < 0 ∨ cell.slots.size ≤ j.toNatClampNeg) → cell.slots[j.toNatClampNeg]? = some v →
      W p l e R s m args below meth c H locs cells slots Q (F0 m (pc + 1) ls (v :: r)) → W p l e R s m args below meth c H locs cells slots Q (F0 m pc ls (.int j :: .ref a :: r)))
    (hs : ab_ald aty oa ty pc S h = some (pc', S', h')) (k : h' = h → W p l e R s m args below meth c H locs cells slots Q (F0 m pc' ls (S'.map (ab_v B od)))) : W p l e R s m args below meth c H locs cells slots Q (F0 m pc ls (S.map (ab_v B od))) := by
  unfold ab_ald at hs
  split at hs
  · rename_i x j r
    split at hs
    · rename_i t n f hj
      split at hs
      · rename_i hc
        cases hs
        obtain ⟨cell, g1, g2, g3, g4, g5⟩ := ab_arr hKA hR hj hc.1
        have hin := ab_ix_in hc.2
        exact row g1 g2 g3 (fun q => by rcases q with q | q; exact hin (Or.inl q); exact hin (Or.inr (Nat.le_trans g4.1 q))) (g5 _ (by omega)) (k rfl)
      · cases hs
    · cases hs
  · rename_i x w r
    split at hs
    · rename_i t n f hw
      split at hs
      · rename_i hc
        obtain ⟨rfl, hc2⟩ := hc
        cases hs
        obtain ⟨cell, g1, g2, g3, g4, g5⟩ := ab_old hOA hR hw
        have hin := ab_ix_in hc2
        exact row g1 g2 g3 (fun q => by rcases q with q | q; exact hin (Or.inl q); exact hin (Or.inr (Nat.le_trans g4.1 q))) (g5 _ (by omega)) (k rfl)
      · cases hs
    · cases hs
  · cases hs
/-- an element is written -/
theorem ab_ast (hR : ab_R B od D dA cl NC NS s.heap n0 z0 h H locs cells slots) {j t n : Nat} {f : Nat → Value} {v : Value} {ix : Nat} {H1 : Heap} (hj : h[j]? = some (.inl (t, n, f)))
    (e1 : H1[B + j]? = some ((arrV (dA t) n (fun q => ab_v B od (f q))).setSlot ix (ab_v B od v))) (e2 : H1.size = H.size) (e3 : ∀ q, q ≠ B + j → H1[q]? = H[q]?) :
    ab_R B od D dA cl NC NS s.heap n0 z0 (h.set j (.inl (t, n, updV f ix v))) H1 (locs ++ [⟨B + j, ix⟩]) cells slots := by
  refine hR.set hj rfl ?_ e2 e3
  show H1[B + j]? = some (arrV (dA t) n (fun q => ab_v B od (updV f ix v q)))
  rw [e1, arrV_store]
  congr 2
  funext q
  by_cases hq : q = ix
  · subst hq; simp [updV]
  · simp [updV, hq]
theorem ab_find {α : Type} {P : α → Bool} {xs : List α} {t : Nat} (h : xs.findIdx? P = some t) : ∃ y, xs[t]? = some y ∧ P y = true := by
  obtain ⟨h1, h2, -⟩ := List.findIdx?_eq_some_iff_getElem.mp h
  exact ⟨xs[t], List.getElem?_eq_getElem h1, h2⟩
set_option maxHeartbeats 8000000 in
theorem ab_s2_ok (hx : p.tables.exec = Jvm.exec) (hb : c.code = cc) (hown : s.vm.findClass own = some m.cls) (hTs : ∀ w ∈ Ts, va_Nw w s) (hKC : ab_KC D cl s) (hCS : ab_CS cl ct cd) (hKA : ab_KA dA aty s) (hOA : ab_OA B od oa s s.heap) (hPL : ∀ x n, pl x = some n → ab_pe cl Ts own x n) (hST : ∀ x a b w, pl x = some (7, a, b, .float w) → ∃ tx : String, vk_R own x tx (od w.toNat) s) (hini : ini = true → meth.name = "<init>")
    (hNC : NC ≤ n0 + R.cells) (hNS : NS ≤ z0 + R.slots) (hdg : decode cc pc = .ok (i, len)) (hlen : ab_len i = 0 ∨ len = ab_len i) (hs : ab_s2 cl ct cd aty oa NC NS pl ini i pc S h = some (pc', S', h')) (hR : ab_R B od D dA cl NC NS s.heap n0 z0 h H locs cells slots)
    (k : ∀ (H' : Heap) (locs' : List Loc) (cells' slots' : Nat), ab_R B od D dA cl NC NS s.heap n0 z0 h' H' locs' cells' slots' → W p l e R s m args below meth c H' locs' cells' slots' Q (F0 m pc' ls (S'.map (ab_v B od)))) :
    W p l e R s m args below meth c H locs cells slots Q (F0 m pc ls (S.map (ab_v B od))) := by
  rcases hlen with hlen | hlen
  · cases i
    all_goals first | (simp only [ab_s2] at hs; cases hs; done) | (revert hlen; simp [ab_len]; done)
  subst hlen
  cases i
  case getfield x =>
    simp only [ab_s2] at hs
    split at hs
    · rename_i k0 a b fl j r hp
      split at hs
      · rename_i ci fs hj
        split at hs
        · rename_i hc
          obtain ⟨hk0, rfl⟩ := hc
          split at hs
          · rename_i v hv
            cases hs
            exact ab_getf hx hb hown hTs hKC hR hk0 (hPL _ _ hp) hj hv hdg (k _ _ _ _ hR)
          · cases hs
        · cases hs
      · cases hs
    · cases hs
  case putfield x =>
    simp only [ab_s2] at hs
    split at hs
    · rename_i k0 a b fl v j r hp
      split at hs
      · rename_i ci fs hj
        split at hs
        · rename_i hc
          obtain ⟨hk0, rfl, hbl, hft, hfin⟩ := hc
          cases hs
          exact ab_putf hx hb hown hTs hKC hCS hR hini hk0 (hPL _ _ hp) hj hbl hft hfin hdg (fun H1 locs1 hR1 => k _ _ _ _ hR1)
        · cases hs
      · cases hs
    · cases hs
  case iaload =>
    simp only [ab_s2] at hs
    exact ab_ald_ok hKA hOA hR (fun g1 g2 g3 g4 g5 kk => W.iald hx hb g1 g2 g3 g4 g5 rfl rfl hdg kk) hs (fun he => by subst he; exact k _ _ _ _ hR)
  case baload =>
    simp only [ab_s2] at hs
    exact ab_ald_ok hKA hOA hR (fun g1 g2 g3 g4 g5 kk => W.bald hx hb g1 g2 g3 g4 g5 rfl rfl hdg kk) hs (fun he => by subst he; exact k _ _ _ _ hR)
  case caload =>
    simp only [ab_s2] at hs
    exact ab_ald_ok hKA hOA hR (fun g1 g2 g3 g4 g5 kk => W.cald hx hb g1 g2 g3 g4 g5 rfl rfl hdg kk) hs (fun he => by subst he; exact k _ _ _ _ hR)
  case laload =>
    simp only [ab_s2] at hs
    exact ab_ald_ok hKA hOA hR (fun g1 g2 g3 g4 g5 kk => W.lald hx hb g1 g2 g3 g4 g5 rfl rfl hdg kk) hs (fun he => by subst he; exact k _ _ _ _ hR)
  case aaload =>
    simp only [ab_s2] at hs
    split at hs
    · rename_i x j r
      split at hs
      · rename_i t n f hj
        split at hs
        · rename_i hc
          cases hs
          obtain ⟨ty, ht, hty⟩ : ∃ ty, aty[t]? = some ty ∧ ty.isReference = true := by
            cases ha : aty[t]? with
            | none => rw [ha] at hc; simp at hc
            | some ty =>
              refine ⟨ty, rfl, ?_⟩
              rw [ha] at hc
              cases ty <;> first | rfl | (simp [ab_isR] at hc)
          obtain ⟨cell, g1, g2, g3, g4, g5⟩ := ab_arr hKA hR hj ht
          have hin := ab_ix_in hc.2
          exact W.aald hx hb g1 g2 hty g3 (fun q => by rcases q with q | q; exact hin (Or.inl q); exact hin (Or.inr (Nat.le_trans g4.1 q))) (g5 _ (by omega)) rfl rfl hdg (k _ _ _ _ hR)
        · cases hs
      · cases hs
    · cases hs
  case arraylength =>
    simp only [ab_s2] at hs
    split at hs
    · rename_i j r
      split at hs
      · rename_i t n f hj
        split at hs
        · rename_i hc
          cases hs
          obtain ⟨cell, g1, g2, g3, g4, g5⟩ := ab_arr hKA hR hj (List.getElem?_eq_getElem hc)
          exact W.alen hx hb g1 g2 g4.2 rfl rfl hdg (k _ _ _ _ hR)
        · cases hs
      · cases hs
    · rename_i w r
      split at hs
      · rename_i t n f hw
        cases hs
        obtain ⟨cell, g1, g2, g3, g4, g5⟩ := ab_old hOA hR hw
        exact W.alen hx hb g1 g2 g4.2 rfl rfl hdg (k _ _ _ _ hR)
      · cases hs
    · cases hs
  case iastore =>
    simp only [ab_s2] at hs
    split at hs
    · rename_i y x j r
      split at hs
      · rename_i t n f hj
        split at hs
        · rename_i hc
          cases hs
          have hin := ab_ix_in hc.2
          exact W.iast hx hb (hR.1 j _ hj) ((hKA t _ hc.1).1 n _) (fun q => by cases q) (by rw [arrV_size]; exact hin) rfl rfl hdg (fun H1 e1 e2 e3 => k _ _ _ _ (ab_ast hR hj e1 e2 e3))
        · cases hs
      · cases hs
    · cases hs
  case bastore =>
    simp only [ab_s2] at hs
    split at hs
    · rename_i y x j r
      split at hs
      · rename_i t n f hj
        split at hs
        · rename_i hc
          cases hs
          have hin := ab_ix_in hc.2
          exact W.bast hx hb (hR.1 j _ hj) ((hKA t _ hc.1).1 n _) (fun q => by cases q) (by rw [arrV_size]; exact hin) rfl rfl hdg (fun H1 e1 e2 e3 => k _ _ _ _ (ab_ast hR hj e1 e2 e3))
        · cases hs
      · cases hs
    · cases hs
  case lastore =>
    simp only [ab_s2] at hs
    split at hs
    · rename_i y x j r
      split at hs
      · rename_i t n f hj
        split at hs
        · rename_i hc
          cases hs
          have hin := ab_ix_in hc.2
          exact W.last hx hb (hR.1 j _ hj) ((hKA t _ hc.1).1 n _) (fun q => by cases q) (by rw [arrV_size]; exact hin) rfl rfl hdg (fun H1 e1 e2 e3 => k _ _ _ _ (ab_ast hR hj e1 e2 e3))
        · cases hs
      · cases hs
    · cases hs
  case newarray at_ =>
    simp only [ab_s2] at hs
    split at hs
    · rename_i x r
      split at hs
      · rename_i t ht
        split at hs
        · rename_i hc
          obtain ⟨hn, hbig, hc1, hc2, hfl⟩ := hc
          cases hs
          obtain ⟨y, hy, hy2⟩ := ab_find ht
          have hy3 : y = newarray.typeOf at_ := by simpa using hy2
          subst hy3
          obtain ⟨hA1, hA2, hA3⟩ := hKA t _ hy
          have hb4 : x.toNatClampNeg * componentBytes (newarray.typeOf at_) ≤ 536870912 := by
            have : componentBytes (newarray.typeOf at_) ≤ 8 := by cases at_ <;> decide
            calc _ ≤ x.toNatClampNeg * 8 := Nat.mul_le_mul_left _ this
              _ ≤ 536870912 := by omega
          have q4 := hR.2.2.2.1
          have q5 := hR.2.2.2.2.1
          refine va_newaK hx hb (by have := hA3 ⟨at_, rfl⟩; exact this) rfl hdg rfl hn rfl hb4 (by omega) (by omega) rfl fun H1 cA e1 z1 o1 hAr hNm => ?_
          have hcA : cA = dA t := by
            have q := hA2
            cases at_ <;> exact Option.some.inj (hNm.symm.trans q)
          subst hcA
          have hdv : ab_v B od (defaultValue (newarray.typeOf at_)) = defaultValue (newarray.typeOf at_) := by cases at_ <;> first | rfl | exact absurd rfl hfl
          have hR2 := hR.push (x := .inl (t, x.toNatClampNeg, fun _ => defaultValue (newarray.typeOf at_))) (n := x.toNatClampNeg) (H1 := H1) rfl hc1 hc2 (by show H1[B + h.length]? = some (arrV (dA t) x.toNatClampNeg (fun _ => ab_v B od (defaultValue (newarray.typeOf at_)))); rw [hdv, ← hR.2.1]; exact e1) z1 o1
          have kk := k _ _ _ _ hR2
          rw [hR.2.1]
          exact kk
        · cases hs
      · cases hs
    · cases hs
  case new x =>
    simp only [ab_s2] at hs
    split at hs
    · rename_i ci _ _ hp
      split at hs
      · rename_i q hq
        split at hs
        · rename_i hc
          obtain ⟨hc1, hc2⟩ := hc
          cases hs
          obtain ⟨r, hr, l1, l2, l3⟩ := hPL _ _ hp
          cases hq.symm.trans hr
          obtain ⟨hKn, hws⟩ := hKC ci _ hq
          obtain ⟨c1, c2, c3, c4, c5⟩ := hCS ci _ hq
          have q4 := hR.2.2.2.1
          have q5 := hR.2.2.2.2.1
          refine W.newcK hx hb hown (va_Nw.use rfl (hTs _ l1)) (va_Nw.use rfl (hTs _ l2)) (va_Nw.use rfl (hTs _ l3)) rfl hdg (by omega) (by omega) hKn.2.1 rfl fun H1 kC hkC e1 z1 o1 => ?_
          have hmap : (cd ci).map (ab_v B od) = cd ci := by
            rw [List.map_congr_left (g := id) (fun v hv => c5 v hv B od)]; simp
          have hR2 := hR.push (x := .inr (ci, cd ci)) (n := q.2.2) (H1 := H1) c4 hc1 hc2 ⟨_, hq, by rw [← hR.2.1, hmap]; exact (u_born (ct ci) (hws args) (fun w hw => hw) hKn hkC e1 c1).to c3⟩ z1 o1
          have kk := k _ _ _ _ hR2
          rw [hR.2.1]
          exact kk
        · cases hs
      · cases hs
    · cases hs
  case ldc x =>
    simp only [ab_s2] at hs
    split at hs
    · rename_i _ _ v hp
      cases hs
      have q := hPL _ _ hp
      exact lv_ldc hx hb hown (va_Nw.use rfl (hTs _ q)) hdg (k _ _ _ _ hR)
    · rename_i _ _ w hp
      cases hs
      obtain ⟨tx, q⟩ := hST _ _ _ _ hp
      exact va_ldcS hx hb hown q hdg (k _ _ _ _ hR)
    · cases hs
  case ldc2_w x =>
    simp only [ab_s2] at hs
    split at hs
    · rename_i _ _ v hp
      cases hs
      have q := hPL _ _ hp
      exact lv_ldc2 hx hb hown (va_Nw.use rfl (hTs _ q)) hdg (k _ _ _ _ hR)
    · cases hs
  all_goals (simp only [ab_s2] at hs; cases hs)
end AB2
end
section
/-! more instructions: statics, references compared, casts, arrays of references, old objects -/
def ab_acmp (a b : Value) : Option Bool := match a, b with
  | .ref x, .ref y => some (x == y)
  | .null, .null => some true
  | .null, .ref _ => some false
  | .ref _, .null => some false
  | .null, .float _ => some false
  | .float _, .null => some false
  | .ref _, .float _ => some false
  | .float _, .ref _ => some false
  | .float x, .float y => if x = y then some true else none
  | _, _ => none
def ab_qa (B : Nat) (od : Nat → Nat) (v : Value) : Option Nat := match v with
  | .ref x => some (B + x)
  | .float w => some (od w.toNat)
  | _ => none
theorem ab_acmp_ok {B : Nat} {od : Nat → Nat} (hod : ∀ w, od w < B) {a b : Value} {t : Bool} (h : ab_acmp a b = some t) : ab_v B od a = va_rf (ab_qa B od a) ∧ ab_v B od b = va_rf (ab_qa B od b) ∧ (ab_qa B od a = ab_qa B od b ↔ t = true) := by
  unfold ab_acmp at h
  split at h
  all_goals first | (cases h; done) | skip
  · rename_i x y
    cases h
    refine ⟨rfl, rfl, ?_⟩
    simp [ab_qa]
  · cases h; exact ⟨rfl, rfl, by simp [ab_qa]⟩
  · cases h; exact ⟨rfl, rfl, by simp [ab_qa]⟩
  · cases h; exact ⟨rfl, rfl, by simp [ab_qa]⟩
  · cases h; exact ⟨rfl, rfl, by simp [ab_qa]⟩
  · cases h; exact ⟨rfl, rfl, by simp [ab_qa]⟩
  · rename_i x w
    cases h
    refine ⟨rfl, rfl, ?_⟩
    have := hod w.toNat
    simp [ab_qa]
    omega
  · rename_i w x
    cases h
    refine ⟨rfl, rfl, ?_⟩
    have := hod w.toNat
    simp [ab_qa]
    omega
  · rename_i x y
    split at h
    · rename_i e
      subst e
      cases h
      exact ⟨rfl, rfl, by simp⟩
    · cases h
/-- pool: 4 static (its value); 6 array class (place in aty); 12 cast to a class (number); 13 cast to an array class (place in aty) -/
def ab_s4 (aty : List FieldType) (sb : List (Nat × Nat)) (oo : Nat → Option (Nat × List Value)) (NC NS : Nat) (pl : Nat → Option ab_N) (i : Instr) (pc tg : Nat) (S : List Value) (h : ab_H) : Option (Nat × List Value × ab_H) := match i with
  | .if_acmp .eq _ => (match S with
    | b :: a :: r => (match ab_acmp a b with | some t => some (if t = true then tg else pc + 3, r, h) | none => none)
    | _ => none)
  | .if_acmp .ne _ => (match S with
    | b :: a :: r => (match ab_acmp a b with | some t => some (if t = true then pc + 3 else tg, r, h) | none => none)
    | _ => none)
  | .getstatic x => (match pl x with
    | some (4, _, _, v) => some (pc + 3, v :: S, h)
    | _ => none)
  | .getfield x => (match pl x, S with
    | some (0, a, b, _), .float w :: r => (match oo w.toNat with
      | some (ci, fs) => if ci = a then (match fs[b]? with | some v => some (pc + 3, v :: r, h) | none => none) else none
      | none => none)
    | _, _ => none)
  | .checkcast x => (match S with
    | .null :: _ => some (pc + 3, S, h)
    | .ref j :: _ => (match pl x, h[j]? with
      | some (12, ci, _, _), some (.inr (cj, _)) => if ci = cj then some (pc + 3, S, h) else none
      | some (13, t, _, _), some (.inl (u, _, _)) => if t = u then some (pc + 3, S, h) else none
      | _, _ => none)
    | _ => none)
  | .anewarray x => (match S, pl x with
    | .int y :: r, some (6, t, _, _) => if ¬ y < 0 ∧ y.toNatClampNeg ≤ 65536 ∧ h.length + 1 ≤ NC ∧ ab_sz h + y.toNatClampNeg ≤ NS then some (pc + 3, .ref h.length :: r, h ++ [.inl (t, y.toNatClampNeg, fun _ => .null)]) else none
    | _, _ => none)
  | .aastore => (match S with
    | .ref v :: .int x :: .ref j :: r => (match h[v]?, h[j]? with
      | some (.inr (ci, _)), some (.inl (t, n, f)) => if (t, ci) ∈ sb ∧ ab_ix x n = true then some (pc + 1, r, h.set j (.inl (t, n, updV f x.toNatClampNeg (.ref v)))) else none
      | _, _ => none)
    | .float w :: .int x :: .ref j :: r => (match oo w.toNat, h[j]? with
      | some (ci, _), some (.inl (t, n, f)) => if (t, ci) ∈ sb ∧ ab_ix x n = true then some (pc + 1, r, h.set j (.inl (t, n, updV f x.toNatClampNeg (.float w)))) else none
      | _, _ => none)
    | .null :: .int x :: .ref j :: r => (match h[j]? with
      | some (.inl (t, n, f)) => if (aty[t]?).map ab_isR = some true ∧ ab_ix x n = true then some (pc + 1, r, h.set j (.inl (t, n, updV f x.toNatClampNeg .null))) else none
      | _ => none)
    | _ => none)
  | _ => none
/-- what the words Ts say of such an entry -/
def ab_p4 (cl : List vw_C) (aty : List FieldType) (Ts : List Cond) (own : String) (x : Nat) (n : ab_N) : Prop := match n with
  | (6, t, _, _) => ∃ C : String, aty[t]? = some (.object C) ∧ Cond.classLink own x C ∈ Ts
  | (12, ci, _, _) => ∃ r : vw_C, cl[ci]? = some r ∧ Cond.classLink own x r.1 ∈ Ts
  | (13, t, _, _) => ∃ C : String, aty[t]? = some (.object C) ∧ Cond.classLink own x ("[" ++ (FieldType.object C).toString) ∈ Ts
  | _ => True
def ab_OO (B : Nat) (od : Nat → Nat) (cl : List vw_C) (oo : Nat → Option (Nat × List Value)) (s : State) (H : Heap) : Prop := ∀ (w ci : Nat) (fs : List Value), oo w = some (ci, fs) → ∃ r : vw_C, cl[ci]? = some r ∧ va_O r.1 (od w) (fun q => B ≤ q) s H ∧ ∀ (b : Nat) (v : Value), fs[b]? = some v → b < r.2.2 ∧ va_OF (r.2.1 b).1 (r.2.1 b).2.1 (r.2.1 b).2.2.1 (ab_v B od v) (od w) (fun q => B ≤ q) s H
def ab_SZ (B : Nat) (od : Nat → Nat) (Ts : List Cond) (own : String) (pl : Nat → Option ab_N) (s : State) (H : Heap) : Prop := ∀ (x a b : Nat) (v : Value), pl x = some (4, a, b, v) → ∃ C n d : String, va_Z C n d (ab_v B od v) (fun q => B ≤ q) s H ∧ Cond.fieldLink own x C n d ∈ Ts
section AB4
variable {p : Program} {l : Launch} {e : Env} {R : Room} {s : State} {m : MethodId} {args : Array Value} {below : List Frame} {meth : Method} {c : Code} {H : Heap} {locs : List Loc} {cells slots : Nat} {Q : State → Prop}
variable {cc : ByteArray} {pc pc' tg nL len B n0 z0 NC NS : Nat} {od : Nat → Nat} {S S' : List Value} {h h' : ab_H} {i : Instr} {ls : Array Slot} {own : String}
variable {D : va_G} {dA : Nat → ClassId} {cl : List vw_C} {aty : List FieldType} {sb : List (Nat × Nat)} {oo : Nat → Option (Nat × List Value)} {pl : Nat → Option ab_N} {Ts : List Cond}
theorem ab_aast (hx : p.tables.exec = Jvm.exec) (hb : c.code = cc) (hTs : ∀ w ∈ Ts, va_Nw w s) (hKC : ab_KC D cl s) (hKA : ab_KA dA aty s) (hsb : ∀ t ci, (t, ci) ∈ sb → ∃ (E : String) (r : vw_C), aty[t]? = some (.object E) ∧ cl[ci]? = some r ∧ Cond.castable r.1 E ∈ Ts) (hR : ab_R B od D dA cl NC NS s.heap n0 z0 h H locs cells slots)
    {t ci j n : Nat} {f : Nat → Value} {v : Value} {a : Nat} {x : Int32} {r : List Value} (hv : ab_v B od v = .ref a) (hcell : ∃ cell : Cell, H[a]? = some cell ∧ cell.vm.isStatics = false ∧ ∀ r : vw_C, cl[ci]? = some r → s.vm.findClass r.1 = some cell.cls) (hj : h[j]? = some (.inl (t, n, f))) (hin : (t, ci) ∈ sb) (hix : ab_ix x n = true) (hdg : decode cc pc = .ok (.aastore, 1))
    (k : ∀ (H1 : Heap) (locs1 : List Loc), ab_R B od D dA cl NC NS s.heap n0 z0 (h.set j (.inl (t, n, updV f x.toNatClampNeg v))) H1 locs1 cells slots → W p l e R s m args below meth c H1 locs1 cells slots Q (F0 m (pc + 1) ls r)) : W p l e R s m args below meth c H locs cells slots Q (F0 m pc ls (ab_v B od v :: .int x :: .ref (B + j) :: r)) := by
  obtain ⟨E, r1, ht, hr1, hw⟩ := hsb t ci hin
  obtain ⟨hA1, hA2, -⟩ := hKA t _ ht
  obtain ⟨kA, comp, k1, k2, k3, -⟩ := hA2
  obtain ⟨kE, hkE, -⟩ := Vm.findClass_spec k3
  obtain ⟨c0, t1, f1, f2, f3⟩ := Cond.castable_spec (hTs _ hw)
  obtain ⟨cellV, g1, g2, g3⟩ := hcell
  have g3 := g3 r1 hr1
  cases g3.symm.trans f1
  cases k3.symm.trans f2
  obtain ⟨kC, hkC, -⟩ := Vm.findClass_spec g3
  have hin2 := ab_ix_in hix
  rw [hv]
  refine W.aast hx hb (hR.1 j _ hj) (fun q h => by cases h) (fun h => by cases h) k1 k2 rfl hkE ⟨fun q => hin2 (Or.inl q), by rw [arrV_size]; omega⟩ g1 (fun q h => by rw [h] at g2; cases g2) hkC f3 rfl rfl hdg fun H1 e1 e2 e3 => ?_
  exact k H1 _ (ab_ast hR hj (by rw [hv]; exact e1) e2 e3)
set_option maxHeartbeats 8000000 in
theorem ab_s4_ok (hx : p.tables.exec = Jvm.exec) (hb : c.code = cc) (hown : s.vm.findClass own = some m.cls) (hTs : ∀ w ∈ Ts, va_Nw w s) (hKC : ab_KC D cl s) (hKA : ab_KA dA aty s) (hAO : ∀ (t : Nat) (C : String), aty[t]? = some (.object C) → va_AO C s) (hod : ∀ w, od w < B) (hOO : ab_OO B od cl oo s s.heap) (hSZ : ab_SZ B od Ts own pl s s.heap)
    (hsb : ∀ t ci, (t, ci) ∈ sb → ∃ (E : String) (r : vw_C), aty[t]? = some (.object E) ∧ cl[ci]? = some r ∧ Cond.castable r.1 E ∈ Ts) (hPL : ∀ x n, pl x = some n → ab_pe cl Ts own x n) (hP4 : ∀ x n, pl x = some n → ab_p4 cl aty Ts own x n)
    (hNC : NC ≤ n0 + R.cells) (hNS : NS ≤ z0 + R.slots) (hdg : decode cc pc = .ok (i, len)) (hlen : ab_len i = 0 ∨ len = ab_len i) (htg0 : ∀ off, ab_off i = some off → (pc : Int) + off = (tg : Int)) (hs : ab_s4 aty sb oo NC NS pl i pc tg S h = some (pc', S', h')) (hR : ab_R B od D dA cl NC NS s.heap n0 z0 h H locs cells slots)
    (k : ∀ (H' : Heap) (locs' : List Loc) (cells' slots' : Nat), ab_R B od D dA cl NC NS s.heap n0 z0 h' H' locs' cells' slots' → W p l e R s m args below meth c H' locs' cells' slots' Q (F0 m pc' ls (S'.map (ab_v B od)))) :
    W p l e R s m args below meth c H locs cells slots Q (F0 m pc ls (S.map (ab_v B od))) := by
  rcases hlen with hlen | hlen
  · cases i
    all_goals first | (simp only [ab_s4] at hs; cases hs; done) | (revert hlen; simp [ab_len]; done)
  subst hlen
  cases i
  case if_acmp cd off =>
    have htg := htg0 _ rfl
    cases cd
    case eq =>
      simp only [ab_s4] at hs
      split at hs
      · rename_i b a r
        split at hs
        · rename_i t ht
          cases hs
          obtain ⟨e1, e2, e3⟩ := ab_acmp_ok hod ht
          have kk := k _ _ _ _ hR
          have hgl : W p l e R s m args below meth c H locs cells slots Q (F0 m pc ls (va_rf (ab_qa B od b) :: va_rf (ab_qa B od a) :: S'.map (ab_v B od))) :=
            lv_acmp_eq hx hb hdg htg (fun hc => by rw [if_pos (e3.mp hc)] at kk; exact kk) (fun hc => by rw [if_neg (fun z => hc (e3.mpr z))] at kk; exact kk)
          rw [← e1, ← e2] at hgl
          exact hgl
        · cases hs
      · cases hs
    case ne =>
      simp only [ab_s4] at hs
      split at hs
      · rename_i b a r
        split at hs
        · rename_i t ht
          cases hs
          obtain ⟨e1, e2, e3⟩ := ab_acmp_ok hod ht
          have kk := k _ _ _ _ hR
          have hgl : W p l e R s m args below meth c H locs cells slots Q (F0 m pc ls (va_rf (ab_qa B od b) :: va_rf (ab_qa B od a) :: S'.map (ab_v B od))) :=
            lv_acmp_ne hx hb hdg htg (fun hc => by rw [if_neg (fun z => hc (e3.mpr z))] at kk; exact kk) (fun hc => by rw [if_pos (e3.mp hc)] at kk; exact kk)
          rw [← e1, ← e2] at hgl
          exact hgl
        · cases hs
      · cases hs
  case getstatic x =>
    simp only [ab_s4] at hs
    split at hs
    · rename_i _ _ v hp
      cases hs
      obtain ⟨C, n, d, hZ, hl⟩ := hSZ _ _ _ _ hp
      exact va_gets hx hb hZ hR.2.2.1 hown (va_Nw.use rfl (hTs _ hl)) (fun z hz => hz) hdg (k _ _ _ _ hR)
    · cases hs
  case getfield x =>
    simp only [ab_s4] at hs
    split at hs
    · rename_i a b fl w r hp
      split at hs
      · rename_i ci fs hw
        split at hs
        · rename_i hc
          subst hc
          split at hs
          · rename_i v hv
            cases hs
            obtain ⟨r1, hr1, -, hfl⟩ := hOO _ _ _ hw
            obtain ⟨hbb, hOF⟩ := hfl _ _ hv
            obtain ⟨r2, ref, hr2, hb2, hl2, hs2, -⟩ := hPL _ _ hp
            cases hr1.symm.trans hr2
            exact vk_getf hx hb hOF hR.2.2.1 hown (va_Nw.use rfl (hTs _ hl2)) (ab_same hTs hs2) hdg (k _ _ _ _ hR)
          · cases hs
        · cases hs
      · cases hs
    · cases hs
  case checkcast x =>
    simp only [ab_s4] at hs
    split at hs
    · rename_i r
      cases hs
      exact lv_castN hx hb hdg (k _ _ _ _ hR)
    · rename_i j r
      split at hs
      · rename_i ci _ _ cj fs hp hj
        split at hs
        · rename_i hc
          subst hc
          cases hs
          obtain ⟨r1, hr1, hl1⟩ := hP4 _ _ hp
          obtain ⟨r2, hr2, cell, q1, q2, q3, q4⟩ := hR.1 j _ hj
          cases hr1.symm.trans hr2
          exact va_castS hx hb hown (va_Nw.use rfl (hTs _ hl1)) (hKC ci r1 hr1).1.2 ⟨cell, q1, by rw [q3]; rfl, by rw [q2]; exact (hKC ci r1 hr1).1.2.1⟩ hdg (k _ _ _ _ hR)
        · cases hs
      · rename_i t _ _ u n f hp hj
        split at hs
        · rename_i hc
          subst hc
          cases hs
          obtain ⟨C, ht, hl1⟩ := hP4 _ _ hp
          obtain ⟨hA1, hA2, -⟩ := hKA t _ ht
          obtain ⟨kA, comp, k1, k2, k3, k4⟩ := hA2
          have q1 : H[B + j]? = some (arrV (dA t) n (fun q => ab_v B od (f q))) := hR.1 j _ hj
          intro T hT X
          obtain ⟨vm', X', st⟩ := X.checkcastYes hx hown (va_Nw.use rfl (hTs _ hl1)) (by rw [hT]; exact q1) rfl k4 (va_asg _ _) (g := F0 m pc ls (List.map (ab_v B od) (Value.ref j :: r))) rfl rfl (by rw [hb]; exact hdg)
          obtain ⟨t', a1, b1⟩ := (k _ _ _ _ hR) (T.setVm vm') hT X'
          exact ⟨t', st t' a1, b1⟩
        · cases hs
      · cases hs
    · cases hs
  case anewarray x =>
    simp only [ab_s4] at hs
    split at hs
    · rename_i y r t _ _ hp
      split at hs
      · rename_i hc
        obtain ⟨hn, hbig, hc1, hc2⟩ := hc
        cases hs
        obtain ⟨C, ht, hl1⟩ := hP4 _ _ hp
        obtain ⟨hA1, hA2, -⟩ := hKA t _ ht
        obtain ⟨kA, comp, k1, k2, k3, k4⟩ := hA2
        have q4 := hR.2.2.2.1
        have q5 := hR.2.2.2.2.1
        refine W.anew hx hb hown (va_Nw.use rfl (hTs _ hl1)) (va_AO.use (hAO t C ht)) rfl hdg rfl hn (by omega) (by omega) (by omega) fun cA kA2 comp2 f1 f2 f3 f4 => ?_
        have hcA : cA = dA t := Option.some.inj (f1.symm.trans k4)
        subst hcA
        generalize hH1 : H.push ({ cls := dA t, slots := Array.replicate y.toNatClampNeg .null, vm := .none } : Cell) = H1
        have z1 : H1.size = H.size + 1 := by rw [← hH1, Array.size_push]
        have e1 : H1[H.size]? = some (arrV (dA t) y.toNatClampNeg (fun _ => .null)) := by rw [← hH1, Array.getElem?_push_size, ← arrV_new]
        have o1 : ∀ q : Nat, q < H.size → H1[q]? = H[q]? := fun q hq => by rw [← hH1, Array.getElem?_push, if_neg (Nat.ne_of_lt hq)]
        have hR2 := hR.push (x := .inl (t, y.toNatClampNeg, fun _ => .null)) (n := y.toNatClampNeg) (H1 := H1) rfl hc1 hc2 (by show H1[B + h.length]? = some (arrV (dA t) y.toNatClampNeg (fun _ => .null)); rw [← hR.2.1]; exact e1) z1 o1
        have kk := k _ _ _ _ hR2
        rw [hR.2.1]
        exact kk
      · cases hs
    · cases hs
  case aastore =>
    simp only [ab_s4] at hs
    split at hs
    · rename_i v x j r
      split at hs
      · rename_i ci fs t n f hv hj
        split at hs
        · rename_i hc
          obtain ⟨hc1, hc2⟩ := hc
          cases hs
          obtain ⟨r2, hr2, cell, q1, q2, q3, q4⟩ := hR.1 v _ hv
          exact ab_aast hx hb hTs hKC hKA hsb hR (v := .ref v) rfl ⟨cell, q1, by rw [q3]; rfl, fun r hr => by cases hr.symm.trans hr2; rw [q2]; exact (hKC ci _ hr2).1.2.1⟩ hj hc1 hc2 hdg (fun H1 locs1 hR1 => k _ _ _ _ hR1)
        · cases hs
      · cases hs
    · rename_i w x j r
      split at hs
      · rename_i ci fs t n f hw hj
        split at hs
        · rename_i hc
          obtain ⟨hc1, hc2⟩ := hc
          cases hs
          obtain ⟨r1, hr1, hO, -⟩ := hOO _ _ _ hw
          obtain ⟨cell, o1, o2, o3, -⟩ := hO.kept hR.2.2.1.2.1
          exact ab_aast hx hb hTs hKC hKA hsb hR (v := .float w) rfl ⟨cell, o1, o2, fun r hr => by cases hr.symm.trans hr1; exact o3⟩ hj hc1 hc2 hdg (fun H1 locs1 hR1 => k _ _ _ _ hR1)
        · cases hs
      · cases hs
    · rename_i x j r
      split at hs
      · rename_i t n f hj
        split at hs
        · rename_i hc
          cases hs
          obtain ⟨C, ht⟩ : ∃ C, aty[t]? = some (.object C) := by
            cases ha : aty[t]? with
            | none => rw [ha] at hc; simp at hc
            | some ty =>
              rw [ha] at hc
              cases ty <;> first | exact ⟨_, rfl⟩ | (simp [ab_isR] at hc)
          have hin := ab_ix_in hc.2
          exact va_WaastN (C := C) hx hb (hR.1 j _ hj) ((hKA t _ ht).1 n _) (fun h => by cases h) (by rw [arrV_size]; exact hin) rfl rfl hdg fun H1 e1 e2 e3 => k _ _ _ _ (ab_ast hR hj (v := .null) e1 e2 e3)
        · cases hs
      · cases hs
    · cases hs
  all_goals (simp only [ab_s4] at hs; cases hs)
end AB4
end
