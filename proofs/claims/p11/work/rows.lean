section
/-! AN ABSTRACT MACHINE. Its heap is a list of cells, counted from the first that the law makes; a reference is a place in that list. Old cells (the script, constants) are named by floats, which the program doesn't use. -/
abbrev ab_E : Type := (Nat × Nat × (Nat → Value)) ⊕ (Nat × List Value)
abbrev ab_H : Type := List ab_E
abbrev ab_L : Type := List (Nat × Value)
def ab_v (B : Nat) (od : Nat → Nat) (v : Value) : Value := match v with
  | .ref j => .ref (B + j)
  | .float w => .ref (od w.toNat)
  | v => v
theorem ab_v_cat (B : Nat) (od : Nat → Nat) (v : Value) : (ab_v B od v).category = v.category := by cases v <;> rfl
/-- a cell stands for an abstract one -/
def ab_c (B : Nat) (od : Nat → Nat) (D : va_G) (dA : Nat → ClassId) (cl : List vw_C) (k : Nat) (x : ab_E) (H : Heap) : Prop := match x with
  | .inl (t, n, f) => H[B + k]? = some (arrV (dA t) n (fun j => ab_v B od (f j)))
  | .inr (ci, fs) => ∃ r : vw_C, cl[ci]? = some r ∧ t_OB (B + k) (D.1 ci) r.2.2 (D.2 ci) H (vp_V (fs.map (ab_v B od)))
theorem ab_c.kept {B : Nat} {od : Nat → Nat} {D : va_G} {dA : Nat → ClassId} {cl : List vw_C} {k : Nat} {x : ab_E} {H H1 : Heap} (h : ab_c B od D dA cl k x H) (hq : H1[B + k]? = H[B + k]?) : ab_c B od D dA cl k x H1 := by
  rcases x with ⟨t, n, f⟩ | ⟨ci, fs⟩
  · exact hq.trans h
  · obtain ⟨r, h1, h2⟩ := h
    exact ⟨r, h1, h2.kept hq⟩
def ab_sz1 (x : ab_E) : Nat := match x with
  | .inl (_, n, _) => n
  | .inr (_, fs) => fs.length
def ab_sz (h : ab_H) : Nat := (h.map ab_sz1).sum
theorem ab_sz_push (h : ab_H) (x : ab_E) : ab_sz (h ++ [x]) = ab_sz h + ab_sz1 x := by simp [ab_sz]
/-- the heap stands for an abstract one; nothing below B has changed since H0; so many cells and slots have come since the activation began (n0, z0 were there) -/
def ab_R (B : Nat) (od : Nat → Nat) (D : va_G) (dA : Nat → ClassId) (cl : List vw_C) (NC NS : Nat) (H0 : Heap) (n0 z0 : Nat) (h : ab_H) (H : Heap) (locs : List Loc) (cells slots : Nat) : Prop :=
  (∀ (k : Nat) (x : ab_E), h[k]? = some x → ab_c B od D dA cl k x H) ∧ H.size = B + h.length ∧ va_S (fun q => B ≤ q) H0 H locs ∧ h.length = n0 + cells ∧ ab_sz h = z0 + slots ∧ h.length ≤ NC ∧ ab_sz h ≤ NS
theorem ab_R.set {B : Nat} {od : Nat → Nat} {D : va_G} {dA : Nat → ClassId} {cl : List vw_C} {NC NS : Nat} {H0 : Heap} {n0 z0 : Nat} {h : ab_H} {H H1 : Heap} {locs : List Loc} {cells slots k i : Nat} {x0 x : ab_E}
    (hR : ab_R B od D dA cl NC NS H0 n0 z0 h H locs cells slots) (hk : h[k]? = some x0) (hz : ab_sz1 x = ab_sz1 x0) (hx : ab_c B od D dA cl k x H1) (zs : H1.size = H.size) (oq : ∀ q : Nat, q ≠ B + k → H1[q]? = H[q]?) :
    ab_R B od D dA cl NC NS H0 n0 z0 (h.set k x) H1 (locs ++ [⟨B + k, i⟩]) cells slots := by
  obtain ⟨h1, h2, h3, h4, h5, h6, h7⟩ := hR
  have hl := (List.getElem?_eq_some_iff.mp hk).1
  refine ⟨fun j y hj => ?_, by rw [zs, h2, List.length_set], h3.put zs oq (Nat.le_add_right _ _), by rw [List.length_set]; exact h4, ?_⟩
  · by_cases hjk : j = k
    · subst hjk
      rw [List.getElem?_set_self hl] at hj
      cases hj
      exact hx
    · rw [List.getElem?_set_ne (Ne.symm hjk)] at hj
      exact (h1 j y hj).kept (oq _ (by omega))
  · have e : ab_sz (h.set k x) = ab_sz h := by
      have e0 : (h.set k x).map ab_sz1 = h.map ab_sz1 := by
        rw [List.map_set, hz]
        have e1 : (h.map ab_sz1)[k]? = some (ab_sz1 x0) := by rw [List.getElem?_map, hk]; rfl
        apply List.ext_getElem?
        intro j
        by_cases hjk : j = k
        · subst hjk
          rw [List.getElem?_set_self (by simpa using hl), e1]
        · rw [List.getElem?_set_ne (Ne.symm hjk)]
      unfold ab_sz
      rw [e0]
    rw [e, List.length_set]; exact ⟨h5, h6, h7⟩
theorem ab_R.push {B : Nat} {od : Nat → Nat} {D : va_G} {dA : Nat → ClassId} {cl : List vw_C} {NC NS : Nat} {H0 : Heap} {n0 z0 : Nat} {h : ab_H} {H H1 : Heap} {locs : List Loc} {cells slots n : Nat} {x : ab_E}
    (hR : ab_R B od D dA cl NC NS H0 n0 z0 h H locs cells slots) (hz : ab_sz1 x = n) (hNC : h.length + 1 ≤ NC) (hNS : ab_sz h + n ≤ NS) (hx : ab_c B od D dA cl h.length x H1) (zs : H1.size = H.size + 1) (oq : ∀ q : Nat, q < H.size → H1[q]? = H[q]?) :
    ab_R B od D dA cl NC NS H0 n0 z0 (h ++ [x]) H1 locs (cells + 1) (slots + n) := by
  obtain ⟨h1, h2, h3, h4, h5, h6, h7⟩ := hR
  refine ⟨fun j y hj => ?_, by rw [zs, h2, List.length_append]; rfl, ⟨by rw [zs]; exact Nat.le_trans h3.1 (Nat.le_succ _), fun q a b => (oq q (Nat.lt_of_lt_of_le a h3.1)).trans (h3.2.1 q a b), h3.2.2⟩, by rw [List.length_append, h4]; rfl, by rw [ab_sz_push]; omega, by rw [List.length_append]; exact hNC, by rw [ab_sz_push]; omega⟩
  by_cases hl : j < h.length
  · rw [List.getElem?_append_left hl] at hj
    exact (h1 j y hj).kept (oq _ (by rw [h2]; omega))
  · rw [List.getElem?_append_right (by omega)] at hj
    have hj0 : j - h.length < 1 := (List.getElem?_eq_some_iff.mp hj).1
    have hj1 : j = h.length := by omega
    subst hj1
    rw [Nat.sub_self] at hj
    cases hj
    exact hx
/-- locals -/
def ab_get (L : ab_L) (i : Nat) : Option Value := (L.find? (fun q => q.1 == i)).map (fun q => q.2)
def ab_put1 (L : ab_L) (i : Nat) (v : Value) : ab_L := (i, v) :: L.filter (fun q => !(q.1 == i) && !(q.1 + 1 == i && q.2.category == 2))
def ab_put2 (L : ab_L) (i : Nat) (v : Value) : ab_L := (i, v) :: L.filter (fun q => !(q.1 == i) && (!(q.1 == i + 1) && !(q.1 + 1 == i && q.2.category == 2)))
def ab_m (B : Nat) (od : Nat → Nat) (L : ab_L) : ab_L := L.map (fun q => (q.1, ab_v B od q.2))
theorem ab_get_mem {L : ab_L} {i : Nat} {v : Value} (h : ab_get L i = some v) : (i, v) ∈ L := by
  unfold ab_get at h
  cases hf : L.find? (fun q => q.1 == i) with
  | none => rw [hf] at h; cases h
  | some q =>
    rw [hf] at h
    have h1 := List.mem_of_find?_eq_some hf
    have h2 := List.find?_some hf
    obtain ⟨a, b⟩ := q
    simp at h h2
    subst h2; subst h
    exact h1
theorem ab_at {B : Nat} {od : Nat → Nat} {L : ab_L} {i nL : Nat} {v : Value} {ls : Array Slot} (hl : lv_has ls nL (ab_m B od L)) (h : ab_get L i = some v) : ls[i]? = some (.val (ab_v B od v)) :=
  hl.2.2 (i, ab_v B od v) (List.mem_map.mpr ⟨(i, v), ab_get_mem h, rfl⟩)
theorem ab_m_put1 (B : Nat) (od : Nat → Nat) (L : ab_L) (i : Nat) (v : Value) : (i, ab_v B od v) :: (ab_m B od L).filter (fun q => !(q.1 == i) && !(q.1 + 1 == i && q.2.category == 2)) = ab_m B od (ab_put1 L i v) := by
  unfold ab_m ab_put1
  rw [List.filter_map, List.map_cons]
  congr 2
  apply List.filter_congr
  intro q _
  simp [ab_v_cat]
theorem ab_m_put2 (B : Nat) (od : Nat → Nat) (L : ab_L) (i : Nat) (v : Value) : (i, ab_v B od v) :: (ab_m B od L).filter (fun q => !(q.1 == i) && (!(q.1 == i + 1) && !(q.1 + 1 == i && q.2.category == 2))) = ab_m B od (ab_put2 L i v) := by
  unfold ab_m ab_put2
  rw [List.filter_map, List.map_cons]
  congr 2
  apply List.filter_congr
  intro q _
  simp [ab_v_cat]
end
section
/-- the length of an instruction (0: not one of those, or a switch) -/
def ab_len (i : Instr) : Nat := match i with
  | .iconst _ => 1
  | .bipush _ => 2
  | .sipush _ => 3
  | .lconst _ => 1
  | .aconst_null => 1
  | .iload_n _ => 1
  | .iload _ => 2
  | .lload_n _ => 1
  | .lload _ => 2
  | .aload_n _ => 1
  | .aload _ => 2
  | .istore_n _ => 1
  | .istore _ => 2
  | .lstore_n _ => 1
  | .lstore _ => 2
  | .astore_n _ => 1
  | .astore _ => 2
  | .iinc _ _ => 3
  | .iadd => 1
  | .isub => 1
  | .imul => 1
  | .iand => 1
  | .ior => 1
  | .ixor => 1
  | .ishl => 1
  | .ishr => 1
  | .iushr => 1
  | .ladd => 1
  | .lsub => 1
  | .lmul => 1
  | .lcmp => 1
  | .idiv => 1
  | .irem => 1
  | .ldiv => 1
  | .lrem => 1
  | .ineg => 1
  | .lneg => 1
  | .i2l => 1
  | .l2i => 1
  | .i2b => 1
  | .i2c => 1
  | .dup => 1
  | .pop => 1
  | .dup_x1 => 1
  | .dup_x2 => 1
  | .dup2 => 1
  | .ifCond _ _ => 3
  | .if_icmp _ _ => 3
  | .instanceof _ => 3
  | .goto _ => 3
  | .ifnull _ => 3
  | .ifnonnull _ => 3
  | .getfield _ => 3
  | .putfield _ => 3
  | .getstatic _ => 3
  | .new _ => 3
  | .newarray _ => 2
  | .anewarray _ => 3
  | .checkcast _ => 3
  | .arraylength => 1
  | .iaload => 1
  | .baload => 1
  | .caload => 1
  | .laload => 1
  | .aaload => 1
  | .iastore => 1
  | .bastore => 1
  | .castore => 1
  | .lastore => 1
  | .aastore => 1
  | .invokevirtual _ => 3
  | .invokespecial _ => 3
  | .invokestatic _ => 3
  | .ireturn => 1
  | .lreturn => 1
  | .areturn => 1
  | .return_ => 1
  | .athrow => 1
  | .ldc _ => 2
  | .ldc_w _ => 3
  | .ldc2_w _ => 3
  | .if_acmp _ _ => 3
  | _ => 0
/-- where a branch goes -/
def ab_off (i : Instr) : Option Int := match i with
  | .ifCond _ off => some off
  | .if_icmp _ off => some off
  | .if_acmp _ off => some off
  | .goto off => some off
  | .ifnull off => some off
  | .ifnonnull off => some off
  | _ => none
/-- instructions that touch locals and stack alone -/
def ab_s1 (nL : Nat) (i : Instr) (pc tg : Nat) (L : ab_L) (S : List Value) : Option (Nat × ab_L × List Value) := match i with
  | .iconst n => some (pc + 1, L, .int (Int32.ofInt n) :: S)
  | .bipush n => some (pc + 2, L, .int (Int8.ofInt n).toInt32 :: S)
  | .sipush n => some (pc + 3, L, .int (Int16.ofInt n).toInt32 :: S)
  | .lconst n => some (pc + 1, L, .long (Int64.ofNat (n : Nat)) :: S)
  | .aconst_null => some (pc + 1, L, .null :: S)
  | .iload_n n => (match ab_get L n with | some (.int x) => some (pc + 1, L, .int x :: S) | _ => none)
  | .iload n => (match ab_get L n with | some (.int x) => some (pc + 2, L, .int x :: S) | _ => none)
  | .lload_n n => (match ab_get L n with | some (.long x) => some (pc + 1, L, .long x :: S) | _ => none)
  | .lload n => (match ab_get L n with | some (.long x) => some (pc + 2, L, .long x :: S) | _ => none)
  | .aload_n n => (match ab_get L n with | some (.ref x) => some (pc + 1, L, .ref x :: S) | some (.float x) => some (pc + 1, L, .float x :: S) | some .null => some (pc + 1, L, .null :: S) | _ => none)
  | .aload n => (match ab_get L n with | some (.ref x) => some (pc + 2, L, .ref x :: S) | some (.float x) => some (pc + 2, L, .float x :: S) | some .null => some (pc + 2, L, .null :: S) | _ => none)
  | .istore_n n => (match S with | .int x :: r => if (n : Nat) < nL then some (pc + 1, ab_put1 L n (.int x), r) else none | _ => none)
  | .istore n => (match S with | .int x :: r => if (n : Nat) < nL then some (pc + 2, ab_put1 L n (.int x), r) else none | _ => none)
  | .lstore_n n => (match S with | .long x :: r => if (n : Nat) + 1 < nL then some (pc + 1, ab_put2 L n (.long x), r) else none | _ => none)
  | .lstore n => (match S with | .long x :: r => if (n : Nat) + 1 < nL then some (pc + 2, ab_put2 L n (.long x), r) else none | _ => none)
  | .astore_n n => (match S with | .ref x :: r => if (n : Nat) < nL then some (pc + 1, ab_put1 L n (.ref x), r) else none | .float x :: r => if (n : Nat) < nL then some (pc + 1, ab_put1 L n (.float x), r) else none | .null :: r => if (n : Nat) < nL then some (pc + 1, ab_put1 L n .null, r) else none | _ => none)
  | .astore n => (match S with | .ref x :: r => if (n : Nat) < nL then some (pc + 2, ab_put1 L n (.ref x), r) else none | .float x :: r => if (n : Nat) < nL then some (pc + 2, ab_put1 L n (.float x), r) else none | .null :: r => if (n : Nat) < nL then some (pc + 2, ab_put1 L n .null, r) else none | _ => none)
  | .iinc n z => (match ab_get L n with | some (.int x) => if n < nL then some (pc + 3, ab_put1 L n (.int (x + Int32.ofInt z)), S) else none | _ => none)
  | .iadd => (match S with | .int y :: .int x :: r => some (pc + 1, L, .int (x + y) :: r) | _ => none)
  | .isub => (match S with | .int y :: .int x :: r => some (pc + 1, L, .int (x - y) :: r) | _ => none)
  | .imul => (match S with | .int y :: .int x :: r => some (pc + 1, L, .int (x * y) :: r) | _ => none)
  | .iand => (match S with | .int y :: .int x :: r => some (pc + 1, L, .int (x &&& y) :: r) | _ => none)
  | .ior => (match S with | .int y :: .int x :: r => some (pc + 1, L, .int (x ||| y) :: r) | _ => none)
  | .ixor => (match S with | .int y :: .int x :: r => some (pc + 1, L, .int (x ^^^ y) :: r) | _ => none)
  | .ishl => (match S with | .int y :: .int x :: r => some (pc + 1, L, .int (x <<< (y &&& 31)) :: r) | _ => none)
  | .ishr => (match S with | .int y :: .int x :: r => some (pc + 1, L, .int (x >>> (y &&& 31)) :: r) | _ => none)
  | .iushr => (match S with | .int y :: .int x :: r => some (pc + 1, L, .int ((x.toUInt32 >>> (y.toUInt32 &&& Int32.toUInt32 31)).toInt32) :: r) | _ => none)
  | .ladd => (match S with | .long y :: .long x :: r => some (pc + 1, L, .long (x + y) :: r) | _ => none)
  | .lsub => (match S with | .long y :: .long x :: r => some (pc + 1, L, .long (x - y) :: r) | _ => none)
  | .lmul => (match S with | .long y :: .long x :: r => some (pc + 1, L, .long (x * y) :: r) | _ => none)
  | .lcmp => (match S with | .long y :: .long x :: r => some (pc + 1, L, .int (lg_cmp x y) :: r) | _ => none)
  | .idiv => (match S with | .int y :: .int x :: r => if y = 0 then none else some (pc + 1, L, .int (x / y) :: r) | _ => none)
  | .irem => (match S with | .int y :: .int x :: r => if y = 0 then none else some (pc + 1, L, .int (x - x / y * y) :: r) | _ => none)
  | .ldiv => (match S with | .long y :: .long x :: r => if y = 0 then none else some (pc + 1, L, .long (x / y) :: r) | _ => none)
  | .lrem => (match S with | .long y :: .long x :: r => if y = 0 then none else some (pc + 1, L, .long (x - x / y * y) :: r) | _ => none)
  | .ineg => (match S with | .int x :: r => some (pc + 1, L, .int (-x) :: r) | _ => none)
  | .lneg => (match S with | .long x :: r => some (pc + 1, L, .long (-x) :: r) | _ => none)
  | .i2l => (match S with | .int x :: r => some (pc + 1, L, .long (x.toInt64) :: r) | _ => none)
  | .l2i => (match S with | .long x :: r => some (pc + 1, L, .int (x.toInt32) :: r) | _ => none)
  | .i2b => (match S with | .int x :: r => some (pc + 1, L, .int (x.toInt8.toInt32) :: r) | _ => none)
  | .i2c => (match S with | .int x :: r => some (pc + 1, L, .int ((x.toUInt32 % 65536).toInt32) :: r) | _ => none)
  | .dup => (match S with | a :: r => if a.category = 1 then some (pc + 1, L, a :: a :: r) else none | _ => none)
  | .pop => (match S with | a :: r => if a.category = 1 then some (pc + 1, L, r) else none | _ => none)
  | .dup_x1 => (match S with | a :: b :: r => if a.category = 1 ∧ b.category = 1 then some (pc + 1, L, a :: b :: a :: r) else none | _ => none)
  | .dup_x2 => (match S with | a :: b :: d :: r => if a.category = 1 ∧ b.category = 1 ∧ d.category = 1 then some (pc + 1, L, a :: b :: d :: a :: r) else none | _ => none)
  | .dup2 => (match S with | a :: b :: r => if a.category = 1 ∧ b.category = 1 then some (pc + 1, L, a :: b :: a :: b :: r) else none | _ => none)
  | .ifCond .eq off => (match S with | .int x :: r => some (if x = 0 then tg else pc + 3, L, r) | _ => none)
  | .if_icmp .eq off => (match S with | .int y :: .int x :: r => some (if x = y then tg else pc + 3, L, r) | _ => none)
  | .ifCond .ne off => (match S with | .int x :: r => some (if x = 0 then pc + 3 else tg, L, r) | _ => none)
  | .if_icmp .ne off => (match S with | .int y :: .int x :: r => some (if x = y then pc + 3 else tg, L, r) | _ => none)
  | .ifCond .lt off => (match S with | .int x :: r => some (if x < 0 then tg else pc + 3, L, r) | _ => none)
  | .if_icmp .lt off => (match S with | .int y :: .int x :: r => some (if x < y then tg else pc + 3, L, r) | _ => none)
  | .ifCond .ge off => (match S with | .int x :: r => some (if 0 ≤ x then tg else pc + 3, L, r) | _ => none)
  | .if_icmp .ge off => (match S with | .int y :: .int x :: r => some (if y ≤ x then tg else pc + 3, L, r) | _ => none)
  | .ifCond .gt off => (match S with | .int x :: r => some (if 0 < x then tg else pc + 3, L, r) | _ => none)
  | .if_icmp .gt off => (match S with | .int y :: .int x :: r => some (if y < x then tg else pc + 3, L, r) | _ => none)
  | .ifCond .le off => (match S with | .int x :: r => some (if x ≤ 0 then tg else pc + 3, L, r) | _ => none)
  | .if_icmp .le off => (match S with | .int y :: .int x :: r => some (if x ≤ y then tg else pc + 3, L, r) | _ => none)
  | .goto off => some (tg, L, S)
  | .ifnull off => (match S with | .ref _ :: r => some (pc + 3, L, r) | .float _ :: r => some (pc + 3, L, r) | .null :: r => some (tg, L, r) | _ => none)
  | .ifnonnull off => (match S with | .ref _ :: r => some (tg, L, r) | .float _ :: r => some (tg, L, r) | .null :: r => some (pc + 3, L, r) | _ => none)
  | _ => none
section AB1
variable {p : Program} {l : Launch} {e : Env} {R : Room} {s : State} {m : MethodId} {args : Array Value} {below : List Frame} {meth : Method} {c : Code} {H : Heap} {locs : List Loc} {cells slots : Nat} {Q : State → Prop}
variable {cc : ByteArray} {pc pc' tg nL len B : Nat} {od : Nat → Nat} {L L' : ab_L} {S S' : List Value} {i : Instr} {ls : Array Slot}
set_option maxHeartbeats 4000000 in
theorem ab_s1_ok (hx : p.tables.exec = Jvm.exec) (hb : c.code = cc) (hdg : decode cc pc = .ok (i, len)) (hlen : ab_len i = 0 ∨ len = ab_len i) (htg0 : ∀ off, ab_off i = some off → (pc : Int) + off = (tg : Int))
    (hs : ab_s1 nL i pc tg L S = some (pc', L', S')) (hl : lv_has ls nL (ab_m B od L))
    (k : ∀ ls' : Array Slot, lv_has ls' nL (ab_m B od L') → W p l e R s m args below meth c H locs cells slots Q (F0 m pc' ls' (S'.map (ab_v B od)))) :
    W p l e R s m args below meth c H locs cells slots Q (F0 m pc ls (S.map (ab_v B od))) := by
  rcases hlen with hlen | hlen
  · cases i
    all_goals first | (simp only [ab_s1] at hs; cases hs; done) | (revert hlen; simp [ab_len]; done)
  subst hlen
  cases i
  case iconst n =>
    simp only [ab_s1] at hs
    cases hs
    exact lv_iconst hx hb hdg rfl (k ls hl)
  case bipush n =>
    simp only [ab_s1] at hs
    cases hs
    exact lv_bipush hx hb hdg rfl (k ls hl)
  case sipush n =>
    simp only [ab_s1] at hs
    cases hs
    exact lv_sipush hx hb hdg rfl (k ls hl)
  case lconst n =>
    simp only [ab_s1] at hs
    cases hs
    exact lv_lconst hx hb hdg rfl (k ls hl)
  case aconst_null =>
    simp only [ab_s1] at hs
    cases hs
    exact lv_null hx hb hdg (k ls hl)
  case iload_n n =>
    simp only [ab_s1] at hs
    split at hs
    · rename_i x hg
      cases hs
      exact lv_iload_n hx hb hdg rfl (ab_at hl hg) (k ls hl)
    · cases hs
  case iload n =>
    simp only [ab_s1] at hs
    split at hs
    · rename_i x hg
      cases hs
      exact lv_iload hx hb hdg (ab_at hl hg) (k ls hl)
    · cases hs
  case lload_n n =>
    simp only [ab_s1] at hs
    split at hs
    · rename_i x hg
      cases hs
      exact lv_lload_n hx hb hdg rfl (ab_at hl hg) (k ls hl)
    · cases hs
  case lload n =>
    simp only [ab_s1] at hs
    split at hs
    · rename_i x hg
      cases hs
      exact lv_lload hx hb hdg (ab_at hl hg) (k ls hl)
    · cases hs
  case aload_n n =>
    simp only [ab_s1] at hs
    split at hs
    · rename_i x hg
      cases hs
      exact lv_aload_n hx hb hdg rfl (ab_at hl hg) (k ls hl)
    · rename_i x hg
      cases hs
      exact lv_aload_n hx hb hdg rfl (ab_at hl hg) (k ls hl)
    · rename_i hg
      cases hs
      exact lv_aload_nN hx hb hdg rfl (ab_at hl hg) (k ls hl)
    · cases hs
  case aload n =>
    simp only [ab_s1] at hs
    split at hs
    · rename_i x hg
      cases hs
      exact lv_aload hx hb hdg (ab_at hl hg) (k ls hl)
    · rename_i x hg
      cases hs
      exact lv_aload hx hb hdg (ab_at hl hg) (k ls hl)
    · rename_i hg
      cases hs
      exact lv_aloadN hx hb hdg (ab_at hl hg) (k ls hl)
    · cases hs
  case istore_n n =>
    simp only [ab_s1] at hs
    split at hs
    · rename_i x r
      split at hs
      · rename_i hn
        cases hs
        exact lv_istore_n hx hb hdg rfl hl hn (ab_m_put1 B od L _ (.int x)) (fun ls' hl' => k ls' hl')
      · cases hs
    · cases hs
  case istore n =>
    simp only [ab_s1] at hs
    split at hs
    · rename_i x r
      split at hs
      · rename_i hn
        cases hs
        exact lv_istore hx hb hdg hl hn (ab_m_put1 B od L _ (.int x)) (fun ls' hl' => k ls' hl')
      · cases hs
    · cases hs
  case lstore_n n =>
    simp only [ab_s1] at hs
    split at hs
    · rename_i x r
      split at hs
      · rename_i hn
        cases hs
        exact lv_lstore_n hx hb hdg rfl hl hn (ab_m_put2 B od L _ (.long x)) (fun ls' hl' => k ls' hl')
      · cases hs
    · cases hs
  case lstore n =>
    simp only [ab_s1] at hs
    split at hs
    · rename_i x r
      split at hs
      · rename_i hn
        cases hs
        exact lv_lstore hx hb hdg hl hn (ab_m_put2 B od L _ (.long x)) (fun ls' hl' => k ls' hl')
      · cases hs
    · cases hs
  case astore_n n =>
    simp only [ab_s1] at hs
    split at hs
    · rename_i x r
      split at hs
      · rename_i hn
        cases hs
        exact lv_astore_n hx hb hdg rfl hl hn (ab_m_put1 B od L _ (.ref x)) (fun ls' hl' => k ls' hl')
      · cases hs
    · rename_i x r
      split at hs
      · rename_i hn
        cases hs
        exact lv_astore_n hx hb hdg rfl hl hn (ab_m_put1 B od L _ (.float x)) (fun ls' hl' => k ls' hl')
      · cases hs
    · rename_i r
      split at hs
      · rename_i hn
        cases hs
        exact lv_astore_nN hx hb hdg rfl hl hn (ab_m_put1 B od L _ .null) (fun ls' hl' => k ls' hl')
      · cases hs
    · cases hs
  case astore n =>
    simp only [ab_s1] at hs
    split at hs
    · rename_i x r
      split at hs
      · rename_i hn
        cases hs
        exact lv_astore hx hb hdg hl hn (ab_m_put1 B od L _ (.ref x)) (fun ls' hl' => k ls' hl')
      · cases hs
    · rename_i x r
      split at hs
      · rename_i hn
        cases hs
        exact lv_astore hx hb hdg hl hn (ab_m_put1 B od L _ (.float x)) (fun ls' hl' => k ls' hl')
      · cases hs
    · rename_i r
      split at hs
      · rename_i hn
        cases hs
        exact lv_astoreN hx hb hdg hl hn (ab_m_put1 B od L _ .null) (fun ls' hl' => k ls' hl')
      · cases hs
    · cases hs
  case iinc n z =>
    simp only [ab_s1] at hs
    split at hs
    · rename_i x hg
      split at hs
      · rename_i hn
        cases hs
        obtain ⟨j, hj⟩ := List.getElem?_of_mem (List.mem_map.mpr ⟨(n, Value.int x), ab_get_mem hg, rfl⟩ : (n, ab_v B od (.int x)) ∈ ab_m B od L)
        exact lv_iinc (x := x) hx hb hdg hl hj rfl hn (ab_m_put1 B od L n (.int (x + Int32.ofInt z))) (fun ls' hl' => k ls' hl')
      · cases hs
    · cases hs
  case iadd =>
    simp only [ab_s1] at hs
    split at hs
    · rename_i y x r
      cases hs
      exact lv_iadd hx hb hdg (k ls hl)
    · cases hs
  case isub =>
    simp only [ab_s1] at hs
    split at hs
    · rename_i y x r
      cases hs
      exact lv_isub hx hb hdg (k ls hl)
    · cases hs
  case imul =>
    simp only [ab_s1] at hs
    split at hs
    · rename_i y x r
      cases hs
      exact lv_imul hx hb hdg (k ls hl)
    · cases hs
  case iand =>
    simp only [ab_s1] at hs
    split at hs
    · rename_i y x r
      cases hs
      exact lv_iand hx hb hdg (k ls hl)
    · cases hs
  case ior =>
    simp only [ab_s1] at hs
    split at hs
    · rename_i y x r
      cases hs
      exact lv_ior hx hb hdg (k ls hl)
    · cases hs
  case ixor =>
    simp only [ab_s1] at hs
    split at hs
    · rename_i y x r
      cases hs
      exact lv_ixor hx hb hdg (k ls hl)
    · cases hs
  case ishl =>
    simp only [ab_s1] at hs
    split at hs
    · rename_i y x r
      cases hs
      exact lv_ishl hx hb hdg (k ls hl)
    · cases hs
  case ishr =>
    simp only [ab_s1] at hs
    split at hs
    · rename_i y x r
      cases hs
      exact lv_ishr hx hb hdg (k ls hl)
    · cases hs
  case iushr =>
    simp only [ab_s1] at hs
    split at hs
    · rename_i y x r
      cases hs
      exact lv_iushr hx hb hdg rfl (k ls hl)
    · cases hs
  case ladd =>
    simp only [ab_s1] at hs
    split at hs
    · rename_i y x r
      cases hs
      exact lv_ladd hx hb hdg (k ls hl)
    · cases hs
  case lsub =>
    simp only [ab_s1] at hs
    split at hs
    · rename_i y x r
      cases hs
      exact lv_lsub hx hb hdg (k ls hl)
    · cases hs
  case lmul =>
    simp only [ab_s1] at hs
    split at hs
    · rename_i y x r
      cases hs
      exact lv_lmul hx hb hdg (k ls hl)
    · cases hs
  case lcmp =>
    simp only [ab_s1] at hs
    split at hs
    · rename_i y x r
      cases hs
      exact W.lcmp hx hb hdg (k ls hl)
    · cases hs
  case idiv =>
    simp only [ab_s1] at hs
    split at hs
    · rename_i y x r
      split at hs
      · cases hs
      · rename_i hn
        cases hs
        exact lv_idiv hx hb hdg hn (k ls hl)
    · cases hs
  case irem =>
    simp only [ab_s1] at hs
    split at hs
    · rename_i y x r
      split at hs
      · cases hs
      · rename_i hn
        cases hs
        exact lv_irem hx hb hdg hn (k ls hl)
    · cases hs
  case ldiv =>
    simp only [ab_s1] at hs
    split at hs
    · rename_i y x r
      split at hs
      · cases hs
      · rename_i hn
        cases hs
        exact lv_ldiv hx hb hdg hn (k ls hl)
    · cases hs
  case lrem =>
    simp only [ab_s1] at hs
    split at hs
    · rename_i y x r
      split at hs
      · cases hs
      · rename_i hn
        cases hs
        exact lv_lrem hx hb hdg hn (k ls hl)
    · cases hs
  case ineg =>
    simp only [ab_s1] at hs
    split at hs
    · rename_i x r
      cases hs
      exact lv_ineg hx hb hdg (k ls hl)
    · cases hs
  case lneg =>
    simp only [ab_s1] at hs
    split at hs
    · rename_i x r
      cases hs
      exact lv_lneg hx hb hdg (k ls hl)
    · cases hs
  case i2l =>
    simp only [ab_s1] at hs
    split at hs
    · rename_i x r
      cases hs
      exact lv_i2l hx hb hdg rfl (k ls hl)
    · cases hs
  case l2i =>
    simp only [ab_s1] at hs
    split at hs
    · rename_i x r
      cases hs
      exact lv_l2i hx hb hdg rfl (k ls hl)
    · cases hs
  case i2b =>
    simp only [ab_s1] at hs
    split at hs
    · rename_i x r
      cases hs
      exact lv_i2b hx hb hdg rfl (k ls hl)
    · cases hs
  case i2c =>
    simp only [ab_s1] at hs
    split at hs
    · rename_i x r
      cases hs
      exact lv_i2c hx hb hdg rfl (k ls hl)
    · cases hs
  case dup =>
    simp only [ab_s1] at hs
    split at hs
    · rename_i a r
      split at hs
      · rename_i hc
        have w0 := hc
        cases hs
        exact lv_dup hx hb hdg (by rw [ab_v_cat]; exact w0) (k ls hl)
      · cases hs
    · cases hs
  case pop =>
    simp only [ab_s1] at hs
    split at hs
    · rename_i a r
      split at hs
      · rename_i hc
        have w0 := hc
        cases hs
        exact lv_pop hx hb hdg (by rw [ab_v_cat]; exact w0) (k ls hl)
      · cases hs
    · cases hs
  case dup_x1 =>
    simp only [ab_s1] at hs
    split at hs
    · rename_i a b r
      split at hs
      · rename_i hc
        obtain ⟨w0, w1⟩ := hc
        cases hs
        exact lv_dup_x1 hx hb hdg (by rw [ab_v_cat]; exact w0) (by rw [ab_v_cat]; exact w1) (k ls hl)
      · cases hs
    · cases hs
  case dup_x2 =>
    simp only [ab_s1] at hs
    split at hs
    · rename_i a b d r
      split at hs
      · rename_i hc
        obtain ⟨w0, w1, w2⟩ := hc
        cases hs
        exact lv_dup_x2 hx hb hdg (by rw [ab_v_cat]; exact w0) (by rw [ab_v_cat]; exact w1) (by rw [ab_v_cat]; exact w2) (k ls hl)
      · cases hs
    · cases hs
  case dup2 =>
    simp only [ab_s1] at hs
    split at hs
    · rename_i a b r
      split at hs
      · rename_i hc
        obtain ⟨w0, w1⟩ := hc
        cases hs
        exact lv_dup2_11 hx hb hdg (by rw [ab_v_cat]; exact w0) (by rw [ab_v_cat]; exact w1) (k ls hl)
      · cases hs
    · cases hs
  case goto off =>
    have htg := htg0 _ rfl
    simp only [ab_s1] at hs
    cases hs
    exact lv_goto hx hb hdg htg (k ls hl)
  case ifnull off =>
    have htg := htg0 _ rfl
    simp only [ab_s1] at hs
    split at hs
    · rename_i x r
      cases hs
      exact lv_ifnull hx hb hdg (k ls hl)
    · rename_i x r
      cases hs
      exact lv_ifnull hx hb hdg (k ls hl)
    · rename_i r
      cases hs
      exact lv_ifnullN hx hb hdg htg (k ls hl)
    · cases hs
  case ifnonnull off =>
    have htg := htg0 _ rfl
    simp only [ab_s1] at hs
    split at hs
    · rename_i x r
      cases hs
      exact lv_ifnonnull hx hb hdg htg (k ls hl)
    · rename_i x r
      cases hs
      exact lv_ifnonnull hx hb hdg htg (k ls hl)
    · rename_i r
      cases hs
      exact lv_ifnonnullN hx hb hdg (k ls hl)
    · cases hs
  case ifCond cd off =>
    have htg := htg0 _ rfl
    cases cd
    case eq =>
      simp only [ab_s1] at hs
      split at hs
      · rename_i x r
        cases hs
        exact lv_if_eq hx hb hdg htg (fun hc => by have k1 := k ls hl; rw [if_pos hc] at k1; exact k1) (fun hc => by have k1 := k ls hl; rw [if_neg hc] at k1; exact k1)
      · cases hs
    case ne =>
      simp only [ab_s1] at hs
      split at hs
      · rename_i x r
        cases hs
        exact lv_if_ne hx hb hdg htg (fun hc => by have k1 := k ls hl; rw [if_neg hc] at k1; exact k1) (fun hc => by have k1 := k ls hl; rw [if_pos hc] at k1; exact k1)
      · cases hs
    case lt =>
      simp only [ab_s1] at hs
      split at hs
      · rename_i x r
        cases hs
        exact lv_if_lt hx hb hdg htg (fun hc => by have k1 := k ls hl; rw [if_pos hc] at k1; exact k1) (fun hc => by have k1 := k ls hl; rw [if_neg hc] at k1; exact k1)
      · cases hs
    case ge =>
      simp only [ab_s1] at hs
      split at hs
      · rename_i x r
        cases hs
        exact lv_if_ge hx hb hdg htg (fun hc => by have k1 := k ls hl; rw [if_pos hc] at k1; exact k1) (fun hc => by have k1 := k ls hl; rw [if_neg hc] at k1; exact k1)
      · cases hs
    case gt =>
      simp only [ab_s1] at hs
      split at hs
      · rename_i x r
        cases hs
        exact lv_if_gt hx hb hdg htg (fun hc => by have k1 := k ls hl; rw [if_pos hc] at k1; exact k1) (fun hc => by have k1 := k ls hl; rw [if_neg hc] at k1; exact k1)
      · cases hs
    case le =>
      simp only [ab_s1] at hs
      split at hs
      · rename_i x r
        cases hs
        exact lv_if_le hx hb hdg htg (fun hc => by have k1 := k ls hl; rw [if_pos hc] at k1; exact k1) (fun hc => by have k1 := k ls hl; rw [if_neg hc] at k1; exact k1)
      · cases hs
  case if_icmp cd off =>
    have htg := htg0 _ rfl
    cases cd
    case eq =>
      simp only [ab_s1] at hs
      split at hs
      · rename_i y x r
        cases hs
        exact lv_icmp_eq hx hb hdg htg (fun hc => by have k1 := k ls hl; rw [if_pos hc] at k1; exact k1) (fun hc => by have k1 := k ls hl; rw [if_neg hc] at k1; exact k1)
      · cases hs
    case ne =>
      simp only [ab_s1] at hs
      split at hs
      · rename_i y x r
        cases hs
        exact lv_icmp_ne hx hb hdg htg (fun hc => by have k1 := k ls hl; rw [if_neg hc] at k1; exact k1) (fun hc => by have k1 := k ls hl; rw [if_pos hc] at k1; exact k1)
      · cases hs
    case lt =>
      simp only [ab_s1] at hs
      split at hs
      · rename_i y x r
        cases hs
        exact lv_icmp_lt hx hb hdg htg (fun hc => by have k1 := k ls hl; rw [if_pos hc] at k1; exact k1) (fun hc => by have k1 := k ls hl; rw [if_neg hc] at k1; exact k1)
      · cases hs
    case ge =>
      simp only [ab_s1] at hs
      split at hs
      · rename_i y x r
        cases hs
        exact lv_icmp_ge hx hb hdg htg (fun hc => by have k1 := k ls hl; rw [if_pos hc] at k1; exact k1) (fun hc => by have k1 := k ls hl; rw [if_neg hc] at k1; exact k1)
      · cases hs
    case gt =>
      simp only [ab_s1] at hs
      split at hs
      · rename_i y x r
        cases hs
        exact lv_icmp_gt hx hb hdg htg (fun hc => by have k1 := k ls hl; rw [if_pos hc] at k1; exact k1) (fun hc => by have k1 := k ls hl; rw [if_neg hc] at k1; exact k1)
      · cases hs
    case le =>
      simp only [ab_s1] at hs
      split at hs
      · rename_i y x r
        cases hs
        exact lv_icmp_le hx hb hdg htg (fun hc => by have k1 := k ls hl; rw [if_pos hc] at k1; exact k1) (fun hc => by have k1 := k ls hl; rw [if_neg hc] at k1; exact k1)
      · cases hs
  all_goals (simp only [ab_s1] at hs; cases hs)
end AB1
end
section
/-! the heap's instructions -/
/-- an entry of a class's pool: kind, two numbers, a value. 0 field (class, field); 1 method (number); 2 class (number in cl); 3 constant; 4 static; 5 Object's constructor; 6 array class (place in aty); 7 String constant -/
abbrev ab_N : Type := Nat × Nat × Nat × Value
/-- what a field of this type may hold -/
def ab_ft (ty : FieldType) (v : Value) : Bool := match ty, v with
  | .int, .int _ => true
  | .long, .long _ => true
  | .boolean, .int x => x == 0 || x == 1
  | .byte, .int x => x.toInt8.toInt32 == x && fits .byte (.int x)
  | .char, .int x => x.toUInt32.toUInt16.toUInt32.toInt32 == x && fits .char (.int x)
  | .object _, .ref _ => true
  | .object _, .float _ => true
  | .object _, .null => true
  | .array _, .ref _ => true
  | .array _, .float _ => true
  | .array _, .null => true
  | _, _ => false
theorem ab_ft_ok {B : Nat} {od : Nat → Nat} {ty : FieldType} {v : Value} (h : ab_ft ty v = true) : narrow ty (ab_v B od v) = ab_v B od v ∧ fits ty (ab_v B od v) = true := by
  cases ty <;> cases v <;> first | (exfalso; revert h; simp [ab_ft]; done) | exact ⟨rfl, rfl⟩ | skip
  case boolean.int x =>
    simp [ab_ft] at h
    rcases h with rfl | rfl
    · show narrow .boolean (.int 0) = .int 0 ∧ fits .boolean (.int 0) = true
      decide
    · show narrow .boolean (.int 1) = .int 1 ∧ fits .boolean (.int 1) = true
      decide
  all_goals
    simp only [ab_ft, Bool.and_eq_true, beq_iff_eq] at h
    refine ⟨?_, h.2⟩
    show Value.int _ = Value.int _
    congr 1
    exact h.1
/-- an index is in range -/
def ab_ix (x : Int32) (n : Nat) : Bool := !(decide (x < 0)) && decide (x.toNatClampNeg < n)
theorem ab_ix_in {x : Int32} {n : Nat} (h : ab_ix x n = true) : ¬ (x < 0 ∨ n ≤ x.toNatClampNeg) := by
  simp [ab_ix] at h
  intro q
  rcases q with q | q
  · exact absurd q (by have := h.1; simpa using this)
  · omega
def ab_ald (aty : List FieldType) (oa : Nat → Option (FieldType × Nat × (Nat → Value))) (ty : FieldType) (pc : Nat) (S : List Value) (h : ab_H) : Option (Nat × List Value × ab_H) := match S with
  | .int x :: .ref j :: r => (match h[j]? with
    | some (.inl (t, n, f)) => if aty[t]? = some ty ∧ ab_ix x n = true then some (pc + 1, f x.toNatClampNeg :: r, h) else none
    | _ => none)
  | .int x :: .float w :: r => (match oa w.toNat with
    | some (t, n, f) => if t = ty ∧ ab_ix x n = true then some (pc + 1, f x.toNatClampNeg :: r, h) else none
    | _ => none)
  | _ => none
def ab_isR (ty : FieldType) : Bool := match ty with
  | .object _ => true
  | _ => false
def ab_s2 (cl : List vw_C) (ct : Nat → Nat → FieldType) (cd : Nat → List Value) (aty : List FieldType) (oa : Nat → Option (FieldType × Nat × (Nat → Value))) (NC NS : Nat) (pl : Nat → Option ab_N) (ini : Bool) (i : Instr) (pc : Nat) (S : List Value) (h : ab_H) : Option (Nat × List Value × ab_H) := match i with
  | .getfield x => (match pl x, S with
    | some (k0, a, b, _), .ref j :: r => (match h[j]? with
      | some (.inr (ci, fs)) => if (k0 = 0 ∨ k0 = 8) ∧ ci = a then (match fs[b]? with | some v => some (pc + 3, v :: r, h) | none => none) else none
      | _ => none)
    | _, _ => none)
  | .putfield x => (match pl x, S with
    | some (k0, a, b, fl), v :: .ref j :: r => (match h[j]? with
      | some (.inr (ci, fs)) => if (k0 = 0 ∨ k0 = 8) ∧ ci = a ∧ b < fs.length ∧ ab_ft (ct ci b) v = true ∧ (((cl[ci]?).map (fun q => (q.2.1 b).2.2.2)) = some false ∨ (k0 = 0 ∧ ini = true ∧ fl = .int 1)) then some (pc + 3, r, h.set j (.inr (ci, fs.set b v))) else none
      | _ => none)
    | _, _ => none)
  | .iaload => ab_ald aty oa .int pc S h
  | .baload => ab_ald aty oa .byte pc S h
  | .caload => ab_ald aty oa .char pc S h
  | .laload => ab_ald aty oa .long pc S h
  | .aaload => (match S with
    | .int x :: .ref j :: r => (match h[j]? with
      | some (.inl (t, n, f)) => if (aty[t]?).map ab_isR = some true ∧ ab_ix x n = true then some (pc + 1, f x.toNatClampNeg :: r, h) else none
      | _ => none)
    | _ => none)
  | .arraylength => (match S with
    | .ref j :: r => (match h[j]? with
      | some (.inl (t, n, f)) => if t < aty.length then some (pc + 1, .int (Int32.ofNat n) :: r, h) else none
      | _ => none)
    | .float w :: r => (match oa w.toNat with
      | some (_, n, _) => some (pc + 1, .int (Int32.ofNat n) :: r, h)
      | _ => none)
    | _ => none)
  | .iastore => (match S with
    | .int y :: .int x :: .ref j :: r => (match h[j]? with
      | some (.inl (t, n, f)) => if aty[t]? = some .int ∧ ab_ix x n = true then some (pc + 1, r, h.set j (.inl (t, n, updV f x.toNatClampNeg (.int y)))) else none
      | _ => none)
    | _ => none)
  | .bastore => (match S with
    | .int y :: .int x :: .ref j :: r => (match h[j]? with
      | some (.inl (t, n, f)) => if aty[t]? = some .byte ∧ ab_ix x n = true then some (pc + 1, r, h.set j (.inl (t, n, updV f x.toNatClampNeg (.int y.toInt8.toInt32)))) else none
      | _ => none)
    | _ => none)
  | .lastore => (match S with
    | .long y :: .int x :: .ref j :: r => (match h[j]? with
      | some (.inl (t, n, f)) => if aty[t]? = some .long ∧ ab_ix x n = true then some (pc + 1, r, h.set j (.inl (t, n, updV f x.toNatClampNeg (.long y)))) else none
      | _ => none)
    | _ => none)
  | .newarray at_ => (match S with
    | .int x :: r => (match aty.findIdx? (fun q => q == newarray.typeOf at_) with
      | some t => if ¬ x < 0 ∧ x.toNatClampNeg ≤ 65536 ∧ h.length + 1 ≤ NC ∧ ab_sz h + x.toNatClampNeg ≤ NS ∧ at_ ≠ .float then some (pc + 2, .ref h.length :: r, h ++ [.inl (t, x.toNatClampNeg, fun _ => defaultValue (newarray.typeOf at_))]) else none
      | none => none)
    | _ => none)
  | .new x => (match pl x with
    | some (2, ci, _, _) => (match cl[ci]? with
      | some q => if h.length + 1 ≤ NC ∧ ab_sz h + q.2.2 ≤ NS then some (pc + 3, .ref h.length :: S, h ++ [.inr (ci, cd ci)]) else none
      | none => none)
    | _ => none)
  | .ldc x => (match pl x with
    | some (3, _, _, .int v) => some (pc + 2, .int v :: S, h)
    | some (7, _, _, .float w) => some (pc + 2, .float w :: S, h)
    | _ => none)
  | .ldc2_w x => (match pl x with
    | some (3, _, _, .long v) => some (pc + 3, .long v :: S, h)
    | _ => none)
  | _ => none
/-- what the words Ts say of an entry -/
def ab_pe (cl : List vw_C) (Ts : List Cond) (own : String) (x : Nat) (n : ab_N) : Prop := match n with
  | (0, a, b, fl) => ∃ (r : vw_C) (ref : String), cl[a]? = some r ∧ b < r.2.2 ∧ Cond.fieldLink own x ref (r.2.1 b).2.1 (r.2.1 b).2.2.1 ∈ Ts ∧ (ref = (r.2.1 b).1 ∨ Cond.sameField ref (r.2.1 b).1 (r.2.1 b).2.1 (r.2.1 b).2.2.1 ∈ Ts) ∧ (fl = .int 1 → (r.2.1 b).2.2.2 = true ∧ (r.2.1 b).1 = own)
  | (8, a, b, _) => ∃ (r : vw_C) (ref host : String), cl[a]? = some r ∧ b < r.2.2 ∧ Cond.fieldLinkNest own x ref (r.2.1 b).2.1 (r.2.1 b).2.2.1 host ∈ Ts ∧ (ref = (r.2.1 b).1 ∨ Cond.sameField ref (r.2.1 b).1 (r.2.1 b).2.1 (r.2.1 b).2.2.1 ∈ Ts)
  | (2, ci, _, _) => ∃ r : vw_C, cl[ci]? = some r ∧ Cond.classLink own x r.1 ∈ Ts ∧ Cond.instantiable r.1 r.2.2 ∈ Ts ∧ Cond.initialized r.1 ∈ Ts
  | (3, _, _, .int v) => Cond.constant own x v ∈ Ts
  | (3, _, _, .long v) => Cond.constantLong own x v ∈ Ts
  | _ => True
theorem ab_same {Ts : List Cond} {s : State} (hTs : ∀ w ∈ Ts, va_Nw w s) {ref O n d : String} (h : ref = O ∨ Cond.sameField ref O n d ∈ Ts) : ∀ z, s.fieldFound? O n d = some z → s.fieldFound? ref n d = some z := by
  intro z hz
  rcases h with rfl | h
  · exact hz
  · exact u_same (args := #[]) (va_Nw.use rfl (hTs _ h)) z hz
/-- the classes: what is fixed, and what the tables say -/
def ab_CS (cl : List vw_C) (ct : Nat → Nat → FieldType) (cd : Nat → List Value) : Prop := ∀ (ci : Nat) (r : vw_C), cl[ci]? = some r →
  (∀ k, k < r.2.2 → parseFieldDescriptor (r.2.1 k).2.2.1 = some (ct ci k)) ∧ (∀ a, a < r.2.2 → ∀ b, b < r.2.2 → a ≠ b → (r.2.1 a).2.1 ≠ (r.2.1 b).2.1) ∧ (∀ j, j < r.2.2 → defaultValue (ct ci j) = vp_V (cd ci) j) ∧ (cd ci).length = r.2.2 ∧ (∀ v ∈ cd ci, ∀ (B : Nat) (od : Nat → Nat), ab_v B od v = v)
def ab_KC (D : va_G) (cl : List vw_C) (s : State) : Prop := ∀ (ci : Nat) (r : vw_C), cl[ci]? = some r → u_Kn s r.1 r.2.1 r.2.2 (D.1 ci) (D.2 ci) ∧ ∀ (A : Array Value), ∀ w ∈ u_ws r.1 r.2.1 r.2.2, w.before A s = true
def ab_KA (dA : Nat → ClassId) (aty : List FieldType) (s : State) : Prop := ∀ (t : Nat) (ty : FieldType), aty[t]? = some ty → ArrOfT s (dA t) ty ∧ va_RA s (dA t) ty ∧ ((∃ x, newarray.typeOf x = ty) → (Cond.arrayClass ty).before #[] s = true)
def ab_OA (B : Nat) (od : Nat → Nat) (oa : Nat → Option (FieldType × Nat × (Nat → Value))) (s : State) (H : Heap) : Prop := ∀ (w : Nat) (t : FieldType) (n : Nat) (f : Nat → Value), oa w = some (t, n, f) → od w < B ∧ ∃ cell : Cell, H[od w]? = some cell ∧ s.isArrayOf cell t ∧ cell.vm ≠ .unknown ∧ (n ≤ cell.slots.size ∧ cell.slots.size.toInt32 = Int32.ofNat n) ∧ ∀ j, j < n → cell.slots[j]? = some (ab_v B od (f j))
section AB2
variable {p : Program} {l : Launch} {e : Env} {R : Room} {s : State} {m : MethodId} {args : Array Value} {below : List Frame} {meth : Method} {c : Code} {H : Heap} {locs : List Loc} {cells slots : Nat} {Q : State → Prop}
variable {cc : ByteArray} {pc pc' nL len B n0 z0 NC NS : Nat} {od : Nat → Nat} {S S' : List Value} {h h' : ab_H} {i : Instr} {ls : Array Slot} {own : String}
variable {D : va_G} {dA : Nat → ClassId} {cl : List vw_C} {ct : Nat → Nat → FieldType} {cd : Nat → List Value} {aty : List FieldType} {oa : Nat → Option (FieldType × Nat × (Nat → Value))} {pl : Nat → Option ab_N} {ini : Bool} {Ts : List Cond}
/-- an object's field is read -/
theorem ab_getf (hx : p.tables.exec = Jvm.exec) (hb : c.code = cc) (hown : s.vm.findClass own = some m.cls) (hTs : ∀ w ∈ Ts, va_Nw w s) (hKC : ab_KC D cl s) (hR : ab_R B od D dA cl NC NS s.heap n0 z0 h H locs cells slots)
    {x k0 a b j : Nat} {fl v : Value} {fs r : List Value} (hk0 : k0 = 0 ∨ k0 = 8) (hp : ab_pe cl Ts own x (k0, a, b, fl)) (hj : h[j]? = some (.inr (a, fs))) (hv : fs[b]? = some v) (hdg : decode cc pc = .ok (.getfield x, 3))
    (k : W p l e R s m args below meth c H locs cells slots Q (F0 m (pc + 3) ls (ab_v B od v :: r))) : W p l e R s m args below meth c H locs cells slots Q (F0 m pc ls (.ref (B + j) :: r)) := by
  obtain ⟨r1, hc1, cell, q1, q2, q3, q4⟩ := hR.1 j _ hj
  obtain ⟨hKn, hws⟩ := hKC a r1 hc1
  obtain ⟨hS, hfc, kC, hkC, hkind⟩ := hKn
  have hsl : ∀ (bb : Nat), bb < r1.2.2 → bb = b → ∃ (cf : Nat) (kf : Class) (fi : Nat) (f : Field), s.fieldFound? (r1.2.1 bb).1 (r1.2.1 bb).2.1 (r1.2.1 bb).2.2.1 = some (cf, kf, fi, f) ∧ f.isStatic = false ∧ cell.slots[f.slot]? = some (ab_v B od v) := by
    intro bb hbb e1
    subst e1
    obtain ⟨cf, kf, fi, f, hi, hsl⟩ := hS bb hbb
    refine ⟨cf, kf, fi, f, hi, (u_facts hfc hkC (u_lays (hws args) (fun w hw => hw) hbb) hi).1, ?_⟩
    rw [hsl, q4 bb hbb]
    simp [vp_V, hv]
  rcases hk0 with rfl | rfl
  · obtain ⟨r2, ref, hc2, hb2, hl2, hs2, -⟩ := hp
    cases hc1.symm.trans hc2
    obtain ⟨cf, kf, fi, f, hi, hst, hval⟩ := hsl b hb2 rfl
    exact W.getf hx hb hown (va_Nw.use rfl (hTs _ hl2)) (ab_same hTs hs2 _ hi) hst q1 (by rw [q3]; exact fun h => by cases h) hval rfl rfl hdg k
  · obtain ⟨r2, ref, host, hc2, hb2, hl2, hs2⟩ := hp
    cases hc1.symm.trans hc2
    obtain ⟨cf, kf, fi, f, hi, hst, hval⟩ := hsl b hb2 rfl
    exact va_Wgetf hx hb hown (va_Nw.use rfl (hTs _ hl2)) (ab_same hTs hs2 _ hi) hst q1 (by rw [q3]; exact fun h => by cases h) hval rfl rfl hdg k
theorem ab_putf (hx : p.tables.exec = Jvm.exec) (hb : c.code = cc) (hown : s.vm.findClass own = some m.cls) (hTs : ∀ w ∈ Ts, va_Nw w s) (hKC : ab_KC D cl s) (hCS : ab_CS cl ct cd) (hR : ab_R B od D dA cl NC NS s.heap n0 z0 h H locs cells slots) (hini : ini = true → meth.name = "<init>")
    {x k0 a b j : Nat} {fl v : Value} {fs r : List Value} (hk0 : k0 = 0 ∨ k0 = 8) (hp : ab_pe cl Ts own x (k0, a, b, fl)) (hj : h[j]? = some (.inr (a, fs))) (hbl : b < fs.length) (hft : ab_ft (ct a b) v = true)
    (hfin : ((cl[a]?).map (fun q => (q.2.1 b).2.2.2)) = some false ∨ (k0 = 0 ∧ ini = true ∧ fl = .int 1)) (hdg : decode cc pc = .ok (.putfield x, 3))
    (k : ∀ (H1 : Heap) (locs1 : List Loc), ab_R B od D dA cl NC NS s.heap n0 z0 (h.set j (.inr (a, fs.set b v))) H1 locs1 cells slots → W p l e R s m args below meth c H1 locs1 cells slots Q (F0 m (pc + 3) ls r)) : W p l e R s m args below meth c H locs cells slots Q (F0 m pc ls (ab_v B od v :: .ref (B + j) :: r)) := by
  obtain ⟨r1, hc1, cell, q1, q2, q3, q4⟩ := hR.1 j _ hj
  obtain ⟨hKn, hws⟩ := hKC a r1 hc1
  obtain ⟨c1, c2, c3, c4, -⟩ := hCS a r1 hc1
  have hKn2 := hKn
  obtain ⟨hS, hfc, kC, hkC, hkind⟩ := hKn
  obtain ⟨hn, hfit⟩ := ab_ft_ok (B := B) (od := od) hft
  have hap : ∀ x y, x < r1.2.2 → y < r1.2.2 → x ≠ y → (D.2 a) x ≠ (D.2 a) y := by
    intro x y hx hy hne
    obtain ⟨_, _, _, fa, hia, ea⟩ := hS x hx
    obtain ⟨_, _, _, fb, hib, eb⟩ := hS y hy
    rw [← ea, ← eb]
    refine u_apart (u_lays (hws args) (fun w hw => hw) hx) (u_lays (hws args) (fun w hw => hw) hy) hia hib ?_
    rw [(State.fieldFound?_type hia (c1 x hx)).1, (State.fieldFound?_type hib (c1 y hy)).1]
    exact c2 x hx y hy hne
  have fin : ∀ (hb2 : b < r1.2.2) (H1 : Heap), H1[B + j]? = some (cell.setSlot (D.2 a b) (ab_v B od v)) → H1.size = H.size → (∀ q, q ≠ B + j → H1[q]? = H[q]?) → ab_R B od D dA cl NC NS s.heap n0 z0 (h.set j (.inr (a, fs.set b v))) H1 (locs ++ [⟨B + j, D.2 a b⟩]) cells slots := by
    intro hb2 H1 e1 e2 e3
    refine hR.set hj (by simp [ab_sz1]) ⟨r1, hc1, ?_⟩ e2 e3
    refine t_OB.to (V := updV (vp_V (fs.map (ab_v B od))) b (ab_v B od v)) ⟨_, e1, q2, q3, t_set q4 hap hb2 _⟩ (fun jj _ => ?_)
    rw [vp_updV_set (by simpa using hbl), List.map_set]
  rcases hk0 with rfl | rfl
  · obtain ⟨r2, ref, hc2, hb2, hl2, hs2, hf2⟩ := hp
    cases hc1.symm.trans hc2
    obtain ⟨cf, kf, fi, f, hi, hsl⟩ := hS b hb2
    have hst := (u_facts hfc hkC (u_lays (hws args) (fun w hw => hw) hb2) hi).1
    have hlay := hws args _ (u_in_lay hb2)
    unfold u_lay at hlay
    rcases hfin with hfin | ⟨-, hi1, hf1⟩
    · have hff : (r1.2.1 b).2.2.2 = false := by rw [hc1] at hfin; simpa using hfin
      rw [if_neg (by rw [hff]; decide)] at hlay
      have h6 := u_store hfc hkC hkind hlay hi (c1 b hb2) hn hfit
      refine W.putK hx hb (f := f) ⟨hown, va_Nw.use rfl (hTs _ hl2), ⟨_, _, _, ab_same hTs hs2 _ hi⟩, hst⟩ (by rw [q2]; exact h6) q1 q3 (by rw [hsl]; exact k2_hasslot (q4 b hb2)) rfl rfl hdg fun H' e1 e2 e3 => ?_
      rw [hsl] at e1 ⊢
      exact k H' _ (fin hb2 H' e1 e2 e3)
    · obtain ⟨g1, g2⟩ := hf2 hf1
      rw [if_pos g1] at hlay
      have hcf : m.cls = cf := by
        obtain ⟨_, _, c', _, _, _, -, -, hf', -, -, -, hown2, -⟩ := Cond.laysFinal_spec hlay
        have e1 : c' = cf := by have := hi.symm.trans hf'; simp at this; exact this.1.symm
        rw [g2] at hown2
        rw [← e1]; exact Option.some.inj (hown.symm.trans hown2)
      have h6 := u_fits hfc hkC hkind (Or.inr hlay) hi (c1 b hb2) hn hfit
      refine W.putFinK hx hb hown (va_Nw.use rfl (hTs _ hl2)) (ab_same hTs hs2 _ hi) hst hcf (hini hi1) (by rw [q2]; exact h6) q1 q3 (by rw [hsl]; exact k2_hasslot (q4 b hb2)) rfl rfl hdg fun H' e1 e2 e3 => ?_
      rw [hsl] at e1 ⊢
      exact k H' _ (fin hb2 H' e1 e2 e3)
  · obtain ⟨r2, ref, host, hc2, hb2, hl2, hs2⟩ := hp
    cases hc1.symm.trans hc2
    obtain ⟨cf, kf, fi, f, hi, hsl⟩ := hS b hb2
    have hst := (u_facts hfc hkC (u_lays (hws args) (fun w hw => hw) hb2) hi).1
    have hlay := hws args _ (u_in_lay hb2)
    unfold u_lay at hlay
    have hfin : ((cl[a]?).map (fun q => (q.2.1 b).2.2.2)) = some false := by
      rcases hfin with h1 | ⟨h1, -⟩
      · exact h1
      · cases h1
    have hff : (r1.2.1 b).2.2.2 = false := by rw [hc1] at hfin; simpa using hfin
    rw [if_neg (by rw [hff]; decide)] at hlay
    have h6 := u_store hfc hkC hkind hlay hi (c1 b hb2) hn hfit
    refine va_WputK hx hb (f := f) hown (va_Nw.use rfl (hTs _ hl2)) (ab_same hTs hs2 _ hi) hst (by rw [q2]; exact h6) q1 q3 (by rw [hsl]; exact k2_hasslot (q4 b hb2)) rfl rfl hdg fun H' e1 e2 e3 => ?_
    rw [hsl] at e1 ⊢
    exact k H' _ (fin hb2 H' e1 e2 e3)
/-- an array of this activation's is read -/
theorem ab_arr (hKA : ab_KA dA aty s) (hR : ab_R B od D dA cl NC NS s.heap n0 z0 h H locs cells slots) {j t n : Nat} {f : Nat → Value} {ty : FieldType} (hj : h[j]? = some (.inl (t, n, f))) (ht : aty[t]? = some ty) :
    ∃ cell : Cell, H[B + j]? = some cell ∧ s.isArrayOf cell ty ∧ cell.vm ≠ .unknown ∧ (n ≤ cell.slots.size ∧ cell.slots.size.toInt32 = Int32.ofNat n) ∧ ∀ q, q < n → cell.slots[q]? = some (ab_v B od (f q)) := by
  have h1 : H[B + j]? = some (arrV (dA t) n (fun q => ab_v B od (f q))) := hR.1 j _ hj
  exact ⟨_, h1, (hKA t ty ht).1 n _, (fun q => by cases q), ⟨by rw [arrV_size]; exact Nat.le_refl _, by rw [arrV_size]⟩, fun q hq => arrV_read _ _ hq⟩
theorem ab_old (hOA : ab_OA B od oa s s.heap) (hR : ab_R B od D dA cl NC NS s.heap n0 z0 h H locs cells slots) {w n : Nat} {f : Nat → Value} {ty : FieldType} (hw : oa w = some (ty, n, f)) :
    ∃ cell : Cell, H[od w]? = some cell ∧ s.isArrayOf cell ty ∧ cell.vm ≠ .unknown ∧ (n ≤ cell.slots.size ∧ cell.slots.size.toInt32 = Int32.ofNat n) ∧ ∀ q, q < n → cell.slots[q]? = some (ab_v B od (f q)) := by
  obtain ⟨g1, cell, g2, g3⟩ := hOA w ty n f hw
  have g4 := (Array.getElem?_eq_some_iff.mp g2).1
  exact ⟨cell, (hR.2.2.1.2.1 (od w) g4 (by omega)).trans g2, g3⟩
theorem ab_ald_ok (hKA : ab_KA dA aty s) (hOA : ab_OA B od oa s s.heap) (hR : ab_R B od D dA cl NC NS s.heap n0 z0 h H locs cells slots) {ty : FieldType}
    (row : ∀ {a : Addr} {cell : Cell} {j : Int32} {v : Value} {r : List Value}, H[a]? = some cell → s.isArrayOf cell ty → cell.vm ≠ .unknown → ¬ (j < 0 ∨ cell.slots.size ≤ j.toNatClampNeg) → cell.slots[j.toNatClampNeg]? = some v →
      W p l e R s m args below meth c H locs cells slots Q (F0 m (pc + 1) ls (v :: r)) → W p l e R s m args below meth c H locs cells slots Q (F0 m pc ls (.int j :: .ref a :: r)))
    (hs : ab_ald aty oa ty pc S h = some (pc', S', h')) (k : h' = h → W p l e R s m args below meth c H locs cells slots Q (F0 m pc' ls (S'.map (ab_v B od)))) : W p l e R s m args below meth c H locs cells slots Q (F0 m pc ls (S.map (ab_v B od))) := by
  unfold ab_ald at hs
  split at hs
  · rename_i x j r
    split at hs
    · rename_i t n f hj
      split at hs
      · rename_i hc
        cases hs
        obtain ⟨cell, g1, g2, g3, g4, g5⟩ := ab_arr hKA hR hj hc.1
        have hin := ab_ix_in hc.2
        exact row g1 g2 g3 (fun q => by rcases q with q | q; exact hin (Or.inl q); exact hin (Or.inr (Nat.le_trans g4.1 q))) (g5 _ (by omega)) (k rfl)
      · cases hs
    · cases hs
  · rename_i x w r
    split at hs
    · rename_i t n f hw
      split at hs
      · rename_i hc
        obtain ⟨rfl, hc2⟩ := hc
        cases hs
        obtain ⟨cell, g1, g2, g3, g4, g5⟩ := ab_old hOA hR hw
        have hin := ab_ix_in hc2
        exact row g1 g2 g3 (fun q => by rcases q with q | q; exact hin (Or.inl q); exact hin (Or.inr (Nat.le_trans g4.1 q))) (g5 _ (by omega)) (k rfl)
      · cases hs
    · cases hs
  · cases hs
/-- an element is written -/
theorem ab_ast (hR : ab_R B od D dA cl NC NS s.heap n0 z0 h H locs cells slots) {j t n : Nat} {f : Nat → Value} {v : Value} {ix : Nat} {H1 : Heap} (hj : h[j]? = some (.inl (t, n, f)))
    (e1 : H1[B + j]? = some ((arrV (dA t) n (fun q => ab_v B od (f q))).setSlot ix (ab_v B od v))) (e2 : H1.size = H.size) (e3 : ∀ q, q ≠ B + j → H1[q]? = H[q]?) :
    ab_R B od D dA cl NC NS s.heap n0 z0 (h.set j (.inl (t, n, updV f ix v))) H1 (locs ++ [⟨B + j, ix⟩]) cells slots := by
  refine hR.set hj rfl ?_ e2 e3
  show H1[B + j]? = some (arrV (dA t) n (fun q => ab_v B od (updV f ix v q)))
  rw [e1, arrV_store]
  congr 2
  funext q
  by_cases hq : q = ix
  · subst hq; simp [updV]
  · simp [updV, hq]
theorem ab_find {α : Type} {P : α → Bool} {xs : List α} {t : Nat} (h : xs.findIdx? P = some t) : ∃ y, xs[t]? = some y ∧ P y = true := by
  obtain ⟨h1, h2, -⟩ := List.findIdx?_eq_some_iff_getElem.mp h
  exact ⟨xs[t], List.getElem?_eq_getElem h1, h2⟩
set_option maxHeartbeats 8000000 in
theorem ab_s2_ok (hx : p.tables.exec = Jvm.exec) (hb : c.code = cc) (hown : s.vm.findClass own = some m.cls) (hTs : ∀ w ∈ Ts, va_Nw w s) (hKC : ab_KC D cl s) (hCS : ab_CS cl ct cd) (hKA : ab_KA dA aty s) (hOA : ab_OA B od oa s s.heap) (hPL : ∀ x n, pl x = some n → ab_pe cl Ts own x n) (hST : ∀ x a b w, pl x = some (7, a, b, .float w) → ∃ tx : String, vk_R own x tx (od w.toNat) s) (hini : ini = true → meth.name = "<init>")
    (hNC : NC ≤ n0 + R.cells) (hNS : NS ≤ z0 + R.slots) (hdg : decode cc pc = .ok (i, len)) (hlen : ab_len i = 0 ∨ len = ab_len i) (hs : ab_s2 cl ct cd aty oa NC NS pl ini i pc S h = some (pc', S', h')) (hR : ab_R B od D dA cl NC NS s.heap n0 z0 h H locs cells slots)
    (k : ∀ (H' : Heap) (locs' : List Loc) (cells' slots' : Nat), ab_R B od D dA cl NC NS s.heap n0 z0 h' H' locs' cells' slots' → W p l e R s m args below meth c H' locs' cells' slots' Q (F0 m pc' ls (S'.map (ab_v B od)))) :
    W p l e R s m args below meth c H locs cells slots Q (F0 m pc ls (S.map (ab_v B od))) := by
  rcases hlen with hlen | hlen
  · cases i
    all_goals first | (simp only [ab_s2] at hs; cases hs; done) | (revert hlen; simp [ab_len]; done)
  subst hlen
  cases i
  case getfield x =>
    simp only [ab_s2] at hs
    split at hs
    · rename_i k0 a b fl j r hp
      split at hs
      · rename_i ci fs hj
        split at hs
        · rename_i hc
          obtain ⟨hk0, rfl⟩ := hc
          split at hs
          · rename_i v hv
            cases hs
            exact ab_getf hx hb hown hTs hKC hR hk0 (hPL _ _ hp) hj hv hdg (k _ _ _ _ hR)
          · cases hs
        · cases hs
      · cases hs
    · cases hs
  case putfield x =>
    simp only [ab_s2] at hs
    split at hs
    · rename_i k0 a b fl v j r hp
      split at hs
      · rename_i ci fs hj
        split at hs
        · rename_i hc
          obtain ⟨hk0, rfl, hbl, hft, hfin⟩ := hc
          cases hs
          exact ab_putf hx hb hown hTs hKC hCS hR hini hk0 (hPL _ _ hp) hj hbl hft hfin hdg (fun H1 locs1 hR1 => k _ _ _ _ hR1)
        · cases hs
      · cases hs
    · cases hs
  case iaload =>
    simp only [ab_s2] at hs
    exact ab_ald_ok hKA hOA hR (fun g1 g2 g3 g4 g5 kk => W.iald hx hb g1 g2 g3 g4 g5 rfl rfl hdg kk) hs (fun he => by subst he; exact k _ _ _ _ hR)
  case baload =>
    simp only [ab_s2] at hs
    exact ab_ald_ok hKA hOA hR (fun g1 g2 g3 g4 g5 kk => W.bald hx hb g1 g2 g3 g4 g5 rfl rfl hdg kk) hs (fun he => by subst he; exact k _ _ _ _ hR)
  case caload =>
    simp only [ab_s2] at hs
    exact ab_ald_ok hKA hOA hR (fun g1 g2 g3 g4 g5 kk => W.cald hx hb g1 g2 g3 g4 g5 rfl rfl hdg kk) hs (fun he => by subst he; exact k _ _ _ _ hR)
  case laload =>
    simp only [ab_s2] at hs
    exact ab_ald_ok hKA hOA hR (fun g1 g2 g3 g4 g5 kk => W.lald hx hb g1 g2 g3 g4 g5 rfl rfl hdg kk) hs (fun he => by subst he; exact k _ _ _ _ hR)
  case aaload =>
    simp only [ab_s2] at hs
    split at hs
    · rename_i x j r
      split at hs
      · rename_i t n f hj
        split at hs
        · rename_i hc
          cases hs
          obtain ⟨ty, ht, hty⟩ : ∃ ty, aty[t]? = some ty ∧ ty.isReference = true := by
            cases ha : aty[t]? with
            | none => rw [ha] at hc; simp at hc
            | some ty =>
              refine ⟨ty, rfl, ?_⟩
              rw [ha] at hc
              cases ty <;> first | rfl | (simp [ab_isR] at hc)
          obtain ⟨cell, g1, g2, g3, g4, g5⟩ := ab_arr hKA hR hj ht
          have hin := ab_ix_in hc.2
          exact W.aald hx hb g1 g2 hty g3 (fun q => by rcases q with q | q; exact hin (Or.inl q); exact hin (Or.inr (Nat.le_trans g4.1 q))) (g5 _ (by omega)) rfl rfl hdg (k _ _ _ _ hR)
        · cases hs
      · cases hs
    · cases hs
  case arraylength =>
    simp only [ab_s2] at hs
    split at hs
    · rename_i j r
      split at hs
      · rename_i t n f hj
        split at hs
        · rename_i hc
          cases hs
          obtain ⟨cell, g1, g2, g3, g4, g5⟩ := ab_arr hKA hR hj (List.getElem?_eq_getElem hc)
          exact W.alen hx hb g1 g2 g4.2 rfl rfl hdg (k _ _ _ _ hR)
        · cases hs
      · cases hs
    · rename_i w r
      split at hs
      · rename_i t n f hw
        cases hs
        obtain ⟨cell, g1, g2, g3, g4, g5⟩ := ab_old hOA hR hw
        exact W.alen hx hb g1 g2 g4.2 rfl rfl hdg (k _ _ _ _ hR)
      · cases hs
    · cases hs
  case iastore =>
    simp only [ab_s2] at hs
    split at hs
    · rename_i y x j r
      split at hs
      · rename_i t n f hj
        split at hs
        · rename_i hc
          cases hs
          have hin := ab_ix_in hc.2
          exact W.iast hx hb (hR.1 j _ hj) ((hKA t _ hc.1).1 n _) (fun q => by cases q) (by rw [arrV_size]; exact hin) rfl rfl hdg (fun H1 e1 e2 e3 => k _ _ _ _ (ab_ast hR hj e1 e2 e3))
        · cases hs
      · cases hs
    · cases hs
  case bastore =>
    simp only [ab_s2] at hs
    split at hs
    · rename_i y x j r
      split at hs
      · rename_i t n f hj
        split at hs
        · rename_i hc
          cases hs
          have hin := ab_ix_in hc.2
          exact W.bast hx hb (hR.1 j _ hj) ((hKA t _ hc.1).1 n _) (fun q => by cases q) (by rw [arrV_size]; exact hin) rfl rfl hdg (fun H1 e1 e2 e3 => k _ _ _ _ (ab_ast hR hj e1 e2 e3))
        · cases hs
      · cases hs
    · cases hs
  case lastore =>
    simp only [ab_s2] at hs
    split at hs
    · rename_i y x j r
      split at hs
      · rename_i t n f hj
        split at hs
        · rename_i hc
          cases hs
          have hin := ab_ix_in hc.2
          exact W.last hx hb (hR.1 j _ hj) ((hKA t _ hc.1).1 n _) (fun q => by cases q) (by rw [arrV_size]; exact hin) rfl rfl hdg (fun H1 e1 e2 e3 => k _ _ _ _ (ab_ast hR hj e1 e2 e3))
        · cases hs
      · cases hs
    · cases hs
  case newarray at_ =>
    simp only [ab_s2] at hs
    split at hs
    · rename_i x r
      split at hs
      · rename_i t ht
        split at hs
        · rename_i hc
          obtain ⟨hn, hbig, hc1, hc2, hfl⟩ := hc
          cases hs
          obtain ⟨y, hy, hy2⟩ := ab_find ht
          have hy3 : y = newarray.typeOf at_ := by simpa using hy2
          subst hy3
          obtain ⟨hA1, hA2, hA3⟩ := hKA t _ hy
          have hb4 : x.toNatClampNeg * componentBytes (newarray.typeOf at_) ≤ 536870912 := by
            have : componentBytes (newarray.typeOf at_) ≤ 8 := by cases at_ <;> decide
            calc _ ≤ x.toNatClampNeg * 8 := Nat.mul_le_mul_left _ this
              _ ≤ 536870912 := by omega
          have q4 := hR.2.2.2.1
          have q5 := hR.2.2.2.2.1
          refine va_newaK hx hb (by have := hA3 ⟨at_, rfl⟩; exact this) rfl hdg rfl hn rfl hb4 (by omega) (by omega) rfl fun H1 cA e1 z1 o1 hAr hNm => ?_
          have hcA : cA = dA t := by
            have q := hA2
            cases at_ <;> exact Option.some.inj (hNm.symm.trans q)
          subst hcA
          have hdv : ab_v B od (defaultValue (newarray.typeOf at_)) = defaultValue (newarray.typeOf at_) := by cases at_ <;> first | rfl | exact absurd rfl hfl
          have hR2 := hR.push (x := .inl (t, x.toNatClampNeg, fun _ => defaultValue (newarray.typeOf at_))) (n := x.toNatClampNeg) (H1 := H1) rfl hc1 hc2 (by show H1[B + h.length]? = some (arrV (dA t) x.toNatClampNeg (fun _ => ab_v B od (defaultValue (newarray.typeOf at_)))); rw [hdv, ← hR.2.1]; exact e1) z1 o1
          have kk := k _ _ _ _ hR2
          rw [hR.2.1]
          exact kk
        · cases hs
      · cases hs
    · cases hs
  case new x =>
    simp only [ab_s2] at hs
    split at hs
    · rename_i ci _ _ hp
      split at hs
      · rename_i q hq
        split at hs
        · rename_i hc
          obtain ⟨hc1, hc2⟩ := hc
          cases hs
          obtain ⟨r, hr, l1, l2, l3⟩ := hPL _ _ hp
          cases hq.symm.trans hr
          obtain ⟨hKn, hws⟩ := hKC ci _ hq
          obtain ⟨c1, c2, c3, c4, c5⟩ := hCS ci _ hq
          have q4 := hR.2.2.2.1
          have q5 := hR.2.2.2.2.1
          refine W.newcK hx hb hown (va_Nw.use rfl (hTs _ l1)) (va_Nw.use rfl (hTs _ l2)) (va_Nw.use rfl (hTs _ l3)) rfl hdg (by omega) (by omega) hKn.2.1 rfl fun H1 kC hkC e1 z1 o1 => ?_
          have hmap : (cd ci).map (ab_v B od) = cd ci := by
            rw [List.map_congr_left (g := id) (fun v hv => c5 v hv B od)]; simp
          have hR2 := hR.push (x := .inr (ci, cd ci)) (n := q.2.2) (H1 := H1) c4 hc1 hc2 ⟨_, hq, by rw [← hR.2.1, hmap]; exact (u_born (ct ci) (hws args) (fun w hw => hw) hKn hkC e1 c1).to c3⟩ z1 o1
          have kk := k _ _ _ _ hR2
          rw [hR.2.1]
          exact kk
        · cases hs
      · cases hs
    · cases hs
  case ldc x =>
    simp only [ab_s2] at hs
    split at hs
    · rename_i _ _ v hp
      cases hs
      have q := hPL _ _ hp
      exact lv_ldc hx hb hown (va_Nw.use rfl (hTs _ q)) hdg (k _ _ _ _ hR)
    · rename_i _ _ w hp
      cases hs
      obtain ⟨tx, q⟩ := hST _ _ _ _ hp
      exact va_ldcS hx hb hown q hdg (k _ _ _ _ hR)
    · cases hs
  case ldc2_w x =>
    simp only [ab_s2] at hs
    split at hs
    · rename_i _ _ v hp
      cases hs
      have q := hPL _ _ hp
      exact lv_ldc2 hx hb hown (va_Nw.use rfl (hTs _ q)) hdg (k _ _ _ _ hR)
    · cases hs
  all_goals (simp only [ab_s2] at hs; cases hs)
end AB2
end
section
/-! more instructions: statics, references compared, casts, arrays of references, old objects -/
def ab_acmp (oa : Nat → Option (FieldType × Nat × (Nat → Value))) (oo : Nat → Option (Nat × List Value)) (a b : Value) : Option Bool := match a, b with
  | .ref x, .ref y => some (x == y)
  | .null, .null => some true
  | .null, .ref _ => some false
  | .ref _, .null => some false
  | .null, .float _ => some false
  | .float _, .null => some false
  | .ref _, .float w => if (oo w.toNat).isSome = true ∨ (oa w.toNat).isSome = true then some false else none
  | .float w, .ref _ => if (oo w.toNat).isSome = true ∨ (oa w.toNat).isSome = true then some false else none
  | .float x, .float y => if x = y then some true else if (oo x.toNat).isSome = true ∧ (oo y.toNat).isSome = true then some false else none
  | _, _ => none
def ab_qa (B : Nat) (od : Nat → Nat) (v : Value) : Option Nat := match v with
  | .ref x => some (B + x)
  | .float w => some (od w.toNat)
  | _ => none
theorem ab_acmp_ok {B : Nat} {od : Nat → Nat} {oa : Nat → Option (FieldType × Nat × (Nat → Value))} {oo : Nat → Option (Nat × List Value)} (hod : ∀ w, ((oo w).isSome = true ∨ (oa w).isSome = true) → od w < B) (hinj : ∀ w w', (oo w).isSome = true → (oo w').isSome = true → od w = od w' → w = w') {a b : Value} {t : Bool} (h : ab_acmp oa oo a b = some t) : ab_v B od a = va_rf (ab_qa B od a) ∧ ab_v B od b = va_rf (ab_qa B od b) ∧ (ab_qa B od a = ab_qa B od b ↔ t = true) := by
  unfold ab_acmp at h
  split at h
  all_goals first | (cases h; done) | skip
  · rename_i x y
    cases h
    refine ⟨rfl, rfl, ?_⟩
    simp [ab_qa]
  · cases h; exact ⟨rfl, rfl, by simp [ab_qa]⟩
  · cases h; exact ⟨rfl, rfl, by simp [ab_qa]⟩
  · cases h; exact ⟨rfl, rfl, by simp [ab_qa]⟩
  · cases h; exact ⟨rfl, rfl, by simp [ab_qa]⟩
  · cases h; exact ⟨rfl, rfl, by simp [ab_qa]⟩
  · rename_i x w
    split at h
    · rename_i hk
      cases h
      refine ⟨rfl, rfl, ?_⟩
      have := hod w.toNat hk
      simp [ab_qa]
      omega
    · cases h
  · rename_i w x
    split at h
    · rename_i hk
      cases h
      refine ⟨rfl, rfl, ?_⟩
      have := hod w.toNat hk
      simp [ab_qa]
      omega
    · cases h
  · rename_i x y
    split at h
    · rename_i e
      subst e
      cases h
      exact ⟨rfl, rfl, by simp⟩
    · rename_i hne
      split at h
      · rename_i hs
        cases h
        refine ⟨rfl, rfl, ?_⟩
        have z : od x.toNat ≠ od y.toNat := fun e => hne (UInt32.toNat_inj.mp (hinj _ _ hs.1 hs.2 e))
        simp [ab_qa, z]
      · cases h
/-- pool: 4 static (its value); 6 array class (place in aty); 12 cast to a class (number); 13 cast to an array class (place in aty) -/
def ab_s4 (aty : List FieldType) (oa : Nat → Option (FieldType × Nat × (Nat → Value))) (sb : List (Nat × Nat)) (oo : Nat → Option (Nat × List Value)) (NC NS : Nat) (pl : Nat → Option ab_N) (i : Instr) (pc tg : Nat) (S : List Value) (h : ab_H) : Option (Nat × List Value × ab_H) := match i with
  | .if_acmp .eq _ => (match S with
    | b :: a :: r => (match ab_acmp oa oo a b with | some t => some (if t = true then tg else pc + 3, r, h) | none => none)
    | _ => none)
  | .if_acmp .ne _ => (match S with
    | b :: a :: r => (match ab_acmp oa oo a b with | some t => some (if t = true then pc + 3 else tg, r, h) | none => none)
    | _ => none)
  | .getstatic x => (match pl x with
    | some (4, _, _, v) => some (pc + 3, v :: S, h)
    | _ => none)
  | .getfield x => (match pl x, S with
    | some (0, a, b, _), .float w :: r => (match oo w.toNat with
      | some (ci, fs) => if ci = a then (match fs[b]? with | some v => some (pc + 3, v :: r, h) | none => none) else none
      | none => none)
    | _, _ => none)
  | .checkcast x => (match S with
    | .null :: _ => some (pc + 3, S, h)
    | .ref j :: _ => (match pl x, h[j]? with
      | some (12, ci, _, _), some (.inr (cj, _)) => if ci = cj then some (pc + 3, S, h) else none
      | some (13, t, _, _), some (.inl (u, _, _)) => if t = u then some (pc + 3, S, h) else none
      | _, _ => none)
    | _ => none)
  | .anewarray x => (match S, pl x with
    | .int y :: r, some (6, t, _, _) => if ¬ y < 0 ∧ y.toNatClampNeg ≤ 65536 ∧ h.length + 1 ≤ NC ∧ ab_sz h + y.toNatClampNeg ≤ NS then some (pc + 3, .ref h.length :: r, h ++ [.inl (t, y.toNatClampNeg, fun _ => .null)]) else none
    | _, _ => none)
  | .aastore => (match S with
    | .ref v :: .int x :: .ref j :: r => (match h[v]?, h[j]? with
      | some (.inr (ci, _)), some (.inl (t, n, f)) => if (t, ci) ∈ sb ∧ ab_ix x n = true then some (pc + 1, r, h.set j (.inl (t, n, updV f x.toNatClampNeg (.ref v)))) else none
      | _, _ => none)
    | .float w :: .int x :: .ref j :: r => (match oo w.toNat, h[j]? with
      | some (ci, _), some (.inl (t, n, f)) => if (t, ci) ∈ sb ∧ ab_ix x n = true then some (pc + 1, r, h.set j (.inl (t, n, updV f x.toNatClampNeg (.float w)))) else none
      | _, _ => none)
    | .null :: .int x :: .ref j :: r => (match h[j]? with
      | some (.inl (t, n, f)) => if (aty[t]?).map ab_isR = some true ∧ ab_ix x n = true then some (pc + 1, r, h.set j (.inl (t, n, updV f x.toNatClampNeg .null))) else none
      | _ => none)
    | _ => none)
  | _ => none
/-- what the words Ts say of such an entry -/
def ab_p4 (cl : List vw_C) (aty : List FieldType) (Ts : List Cond) (own : String) (x : Nat) (n : ab_N) : Prop := match n with
  | (6, t, _, _) => ∃ C : String, aty[t]? = some (.object C) ∧ Cond.classLink own x C ∈ Ts
  | (12, ci, _, _) => ∃ r : vw_C, cl[ci]? = some r ∧ Cond.classLink own x r.1 ∈ Ts
  | (13, t, _, _) => ∃ C : String, aty[t]? = some (.object C) ∧ Cond.classLink own x ("[" ++ (FieldType.object C).toString) ∈ Ts
  | _ => True
def ab_OO (B : Nat) (od : Nat → Nat) (cl : List vw_C) (oo : Nat → Option (Nat × List Value)) (s : State) (H : Heap) : Prop := ∀ (w ci : Nat) (fs : List Value), oo w = some (ci, fs) → ∃ r : vw_C, cl[ci]? = some r ∧ va_O r.1 (od w) (fun q => B ≤ q) s H ∧ ∀ (b : Nat) (v : Value), fs[b]? = some v → b < r.2.2 ∧ va_OF (r.2.1 b).1 (r.2.1 b).2.1 (r.2.1 b).2.2.1 (ab_v B od v) (od w) (fun q => B ≤ q) s H
def ab_SZ (B : Nat) (od : Nat → Nat) (Ts : List Cond) (own : String) (pl : Nat → Option ab_N) (s : State) (H : Heap) : Prop := ∀ (x a b : Nat) (v : Value), pl x = some (4, a, b, v) → ∃ C n d : String, va_Z C n d (ab_v B od v) (fun q => B ≤ q) s H ∧ Cond.fieldLink own x C n d ∈ Ts
section AB4
variable {p : Program} {l : Launch} {e : Env} {R : Room} {s : State} {m : MethodId} {args : Array Value} {below : List Frame} {meth : Method} {c : Code} {H : Heap} {locs : List Loc} {cells slots : Nat} {Q : State → Prop}
variable {cc : ByteArray} {pc pc' tg nL len B n0 z0 NC NS : Nat} {od : Nat → Nat} {S S' : List Value} {h h' : ab_H} {i : Instr} {ls : Array Slot} {own : String}
variable {D : va_G} {dA : Nat → ClassId} {cl : List vw_C} {aty : List FieldType} {oa : Nat → Option (FieldType × Nat × (Nat → Value))} {sb : List (Nat × Nat)} {oo : Nat → Option (Nat × List Value)} {pl : Nat → Option ab_N} {Ts : List Cond}
theorem ab_aast (hx : p.tables.exec = Jvm.exec) (hb : c.code = cc) (hTs : ∀ w ∈ Ts, va_Nw w s) (hKC : ab_KC D cl s) (hKA : ab_KA dA aty s) (hsb : ∀ t ci, (t, ci) ∈ sb → ∃ (E : String) (r : vw_C), aty[t]? = some (.object E) ∧ cl[ci]? = some r ∧ (r.1 = E ∨ Cond.castable r.1 E ∈ Ts)) (hR : ab_R B od D dA cl NC NS s.heap n0 z0 h H locs cells slots)
    {t ci j n : Nat} {f : Nat → Value} {v : Value} {a : Nat} {x : Int32} {r : List Value} (hv : ab_v B od v = .ref a) (hcell : ∃ cell : Cell, H[a]? = some cell ∧ cell.vm.isStatics = false ∧ ∀ r : vw_C, cl[ci]? = some r → s.vm.findClass r.1 = some cell.cls) (hj : h[j]? = some (.inl (t, n, f))) (hin : (t, ci) ∈ sb) (hix : ab_ix x n = true) (hdg : decode cc pc = .ok (.aastore, 1))
    (k : ∀ (H1 : Heap) (locs1 : List Loc), ab_R B od D dA cl NC NS s.heap n0 z0 (h.set j (.inl (t, n, updV f x.toNatClampNeg v))) H1 locs1 cells slots → W p l e R s m args below meth c H1 locs1 cells slots Q (F0 m (pc + 1) ls r)) : W p l e R s m args below meth c H locs cells slots Q (F0 m pc ls (ab_v B od v :: .int x :: .ref (B + j) :: r)) := by
  obtain ⟨E, r1, ht, hr1, hw⟩ := hsb t ci hin
  obtain ⟨hA1, hA2, -⟩ := hKA t _ ht
  obtain ⟨kA, comp, k1, k2, k3, -⟩ := hA2
  obtain ⟨kE, hkE, -⟩ := Vm.findClass_spec k3
  obtain ⟨cellV, g1, g2, g3⟩ := hcell
  have g3 := g3 r1 hr1
  have f3 : s.vm.assignable cellV.cls comp = true := by
    rcases hw with rfl | hw
    · cases g3.symm.trans k3
      have hca := (hKC ci r1 hr1).1.2
      have he := Option.some.inj (hca.1.symm.trans g3)
      have h1 := va_assign hca
      rw [he] at h1
      exact h1
    · obtain ⟨c0, t1, f1, f2, f3⟩ := Cond.castable_spec (hTs _ hw)
      cases g3.symm.trans f1
      cases k3.symm.trans f2
      exact f3
  obtain ⟨kC, hkC, -⟩ := Vm.findClass_spec g3
  have hin2 := ab_ix_in hix
  rw [hv]
  refine W.aast hx hb (hR.1 j _ hj) (fun q h => by cases h) (fun h => by cases h) k1 k2 rfl hkE ⟨fun q => hin2 (Or.inl q), by rw [arrV_size]; omega⟩ g1 (fun q h => by rw [h] at g2; cases g2) hkC f3 rfl rfl hdg fun H1 e1 e2 e3 => ?_
  exact k H1 _ (ab_ast hR hj (by rw [hv]; exact e1) e2 e3)
set_option maxHeartbeats 8000000 in
theorem ab_s4_ok (hx : p.tables.exec = Jvm.exec) (hb : c.code = cc) (hown : s.vm.findClass own = some m.cls) (hTs : ∀ w ∈ Ts, va_Nw w s) (hKC : ab_KC D cl s) (hKA : ab_KA dA aty s) (hAO : ∀ (t : Nat) (C : String), aty[t]? = some (.object C) → va_AO C s) (hOA : ab_OA B od oa s s.heap) (hinj : ∀ w w', (oo w).isSome = true → (oo w').isSome = true → od w = od w' → w = w') (hOO : ab_OO B od cl oo s s.heap) (hSZ : ab_SZ B od Ts own pl s s.heap)
    (hsb : ∀ t ci, (t, ci) ∈ sb → ∃ (E : String) (r : vw_C), aty[t]? = some (.object E) ∧ cl[ci]? = some r ∧ (r.1 = E ∨ Cond.castable r.1 E ∈ Ts)) (hPL : ∀ x n, pl x = some n → ab_pe cl Ts own x n) (hP4 : ∀ x n, pl x = some n → ab_p4 cl aty Ts own x n)
    (hNC : NC ≤ n0 + R.cells) (hNS : NS ≤ z0 + R.slots) (hdg : decode cc pc = .ok (i, len)) (hlen : ab_len i = 0 ∨ len = ab_len i) (htg0 : ∀ off, ab_off i = some off → (pc : Int) + off = (tg : Int)) (hs : ab_s4 aty oa sb oo NC NS pl i pc tg S h = some (pc', S', h')) (hR : ab_R B od D dA cl NC NS s.heap n0 z0 h H locs cells slots)
    (k : ∀ (H' : Heap) (locs' : List Loc) (cells' slots' : Nat), ab_R B od D dA cl NC NS s.heap n0 z0 h' H' locs' cells' slots' → W p l e R s m args below meth c H' locs' cells' slots' Q (F0 m pc' ls (S'.map (ab_v B od)))) :
    W p l e R s m args below meth c H locs cells slots Q (F0 m pc ls (S.map (ab_v B od))) := by
  have hod : ∀ w, ((oo w).isSome = true ∨ (oa w).isSome = true) → od w < B := fun w hk => by
    rcases hk with hk | hk
    · obtain ⟨⟨ci, fs⟩, hz⟩ := Option.isSome_iff_exists.mp hk
      obtain ⟨r, -, hO, -⟩ := hOO w ci fs hz
      obtain ⟨cell, -, -, -, hn⟩ := hO
      exact Nat.not_le.mp hn
    · obtain ⟨⟨t, n, f⟩, hz⟩ := Option.isSome_iff_exists.mp hk
      exact (hOA w t n f hz).1
  rcases hlen with hlen | hlen
  · cases i
    all_goals first | (simp only [ab_s4] at hs; cases hs; done) | (revert hlen; simp [ab_len]; done)
  subst hlen
  cases i
  case if_acmp cd off =>
    have htg := htg0 _ rfl
    cases cd
    case eq =>
      simp only [ab_s4] at hs
      split at hs
      · rename_i b a r
        split at hs
        · rename_i t ht
          cases hs
          obtain ⟨e1, e2, e3⟩ := ab_acmp_ok hod hinj ht
          have kk := k _ _ _ _ hR
          have hgl : W p l e R s m args below meth c H locs cells slots Q (F0 m pc ls (va_rf (ab_qa B od b) :: va_rf (ab_qa B od a) :: S'.map (ab_v B od))) :=
            lv_acmp_eq hx hb hdg htg (fun hc => by rw [if_pos (e3.mp hc)] at kk; exact kk) (fun hc => by rw [if_neg (fun z => hc (e3.mpr z))] at kk; exact kk)
          rw [← e1, ← e2] at hgl
          exact hgl
        · cases hs
      · cases hs
    case ne =>
      simp only [ab_s4] at hs
      split at hs
      · rename_i b a r
        split at hs
        · rename_i t ht
          cases hs
          obtain ⟨e1, e2, e3⟩ := ab_acmp_ok hod hinj ht
          have kk := k _ _ _ _ hR
          have hgl : W p l e R s m args below meth c H locs cells slots Q (F0 m pc ls (va_rf (ab_qa B od b) :: va_rf (ab_qa B od a) :: S'.map (ab_v B od))) :=
            lv_acmp_ne hx hb hdg htg (fun hc => by rw [if_neg (fun z => hc (e3.mpr z))] at kk; exact kk) (fun hc => by rw [if_pos (e3.mp hc)] at kk; exact kk)
          rw [← e1, ← e2] at hgl
          exact hgl
        · cases hs
      · cases hs
  case getstatic x =>
    simp only [ab_s4] at hs
    split at hs
    · rename_i _ _ v hp
      cases hs
      obtain ⟨C, n, d, hZ, hl⟩ := hSZ _ _ _ _ hp
      exact va_gets hx hb hZ hR.2.2.1 hown (va_Nw.use rfl (hTs _ hl)) (fun z hz => hz) hdg (k _ _ _ _ hR)
    · cases hs
  case getfield x =>
    simp only [ab_s4] at hs
    split at hs
    · rename_i a b fl w r hp
      split at hs
      · rename_i ci fs hw
        split at hs
        · rename_i hc
          subst hc
          split at hs
          · rename_i v hv
            cases hs
            obtain ⟨r1, hr1, -, hfl⟩ := hOO _ _ _ hw
            obtain ⟨hbb, hOF⟩ := hfl _ _ hv
            obtain ⟨r2, ref, hr2, hb2, hl2, hs2, -⟩ := hPL _ _ hp
            cases hr1.symm.trans hr2
            exact vk_getf hx hb hOF hR.2.2.1 hown (va_Nw.use rfl (hTs _ hl2)) (ab_same hTs hs2) hdg (k _ _ _ _ hR)
          · cases hs
        · cases hs
      · cases hs
    · cases hs
  case checkcast x =>
    simp only [ab_s4] at hs
    split at hs
    · rename_i r
      cases hs
      exact lv_castN hx hb hdg (k _ _ _ _ hR)
    · rename_i j r
      split at hs
      · rename_i ci _ _ cj fs hp hj
        split at hs
        · rename_i hc
          subst hc
          cases hs
          obtain ⟨r1, hr1, hl1⟩ := hP4 _ _ hp
          obtain ⟨r2, hr2, cell, q1, q2, q3, q4⟩ := hR.1 j _ hj
          cases hr1.symm.trans hr2
          exact va_castS hx hb hown (va_Nw.use rfl (hTs _ hl1)) (hKC ci r1 hr1).1.2 ⟨cell, q1, by rw [q3]; rfl, by rw [q2]; exact (hKC ci r1 hr1).1.2.1⟩ hdg (k _ _ _ _ hR)
        · cases hs
      · rename_i t _ _ u n f hp hj
        split at hs
        · rename_i hc
          subst hc
          cases hs
          obtain ⟨C, ht, hl1⟩ := hP4 _ _ hp
          obtain ⟨hA1, hA2, -⟩ := hKA t _ ht
          obtain ⟨kA, comp, k1, k2, k3, k4⟩ := hA2
          have q1 : H[B + j]? = some (arrV (dA t) n (fun q => ab_v B od (f q))) := hR.1 j _ hj
          intro T hT X
          obtain ⟨vm', X', st⟩ := X.checkcastYes hx hown (va_Nw.use rfl (hTs _ hl1)) (by rw [hT]; exact q1) rfl k4 (va_asg _ _) (g := F0 m pc ls (List.map (ab_v B od) (Value.ref j :: r))) rfl rfl (by rw [hb]; exact hdg)
          obtain ⟨t', a1, b1⟩ := (k _ _ _ _ hR) (T.setVm vm') hT X'
          exact ⟨t', st t' a1, b1⟩
        · cases hs
      · cases hs
    · cases hs
  case anewarray x =>
    simp only [ab_s4] at hs
    split at hs
    · rename_i y r t _ _ hp
      split at hs
      · rename_i hc
        obtain ⟨hn, hbig, hc1, hc2⟩ := hc
        cases hs
        obtain ⟨C, ht, hl1⟩ := hP4 _ _ hp
        obtain ⟨hA1, hA2, -⟩ := hKA t _ ht
        obtain ⟨kA, comp, k1, k2, k3, k4⟩ := hA2
        have q4 := hR.2.2.2.1
        have q5 := hR.2.2.2.2.1
        refine W.anew hx hb hown (va_Nw.use rfl (hTs _ hl1)) (va_AO.use (hAO t C ht)) rfl hdg rfl hn (by omega) (by omega) (by omega) fun cA kA2 comp2 f1 f2 f3 f4 => ?_
        have hcA : cA = dA t := Option.some.inj (f1.symm.trans k4)
        subst hcA
        generalize hH1 : H.push ({ cls := dA t, slots := Array.replicate y.toNatClampNeg .null, vm := .none } : Cell) = H1
        have z1 : H1.size = H.size + 1 := by rw [← hH1, Array.size_push]
        have e1 : H1[H.size]? = some (arrV (dA t) y.toNatClampNeg (fun _ => .null)) := by rw [← hH1, Array.getElem?_push_size, ← arrV_new]
        have o1 : ∀ q : Nat, q < H.size → H1[q]? = H[q]? := fun q hq => by rw [← hH1, Array.getElem?_push, if_neg (Nat.ne_of_lt hq)]
        have hR2 := hR.push (x := .inl (t, y.toNatClampNeg, fun _ => .null)) (n := y.toNatClampNeg) (H1 := H1) rfl hc1 hc2 (by show H1[B + h.length]? = some (arrV (dA t) y.toNatClampNeg (fun _ => .null)); rw [← hR.2.1]; exact e1) z1 o1
        have kk := k _ _ _ _ hR2
        rw [hR.2.1]
        exact kk
      · cases hs
    · cases hs
  case aastore =>
    simp only [ab_s4] at hs
    split at hs
    · rename_i v x j r
      split at hs
      · rename_i ci fs t n f hv hj
        split at hs
        · rename_i hc
          obtain ⟨hc1, hc2⟩ := hc
          cases hs
          obtain ⟨r2, hr2, cell, q1, q2, q3, q4⟩ := hR.1 v _ hv
          exact ab_aast hx hb hTs hKC hKA hsb hR (v := .ref v) rfl ⟨cell, q1, by rw [q3]; rfl, fun r hr => by cases hr.symm.trans hr2; rw [q2]; exact (hKC ci _ hr2).1.2.1⟩ hj hc1 hc2 hdg (fun H1 locs1 hR1 => k _ _ _ _ hR1)
        · cases hs
      · cases hs
    · rename_i w x j r
      split at hs
      · rename_i ci fs t n f hw hj
        split at hs
        · rename_i hc
          obtain ⟨hc1, hc2⟩ := hc
          cases hs
          obtain ⟨r1, hr1, hO, -⟩ := hOO _ _ _ hw
          obtain ⟨cell, o1, o2, o3, -⟩ := hO.kept hR.2.2.1.2.1
          exact ab_aast hx hb hTs hKC hKA hsb hR (v := .float w) rfl ⟨cell, o1, o2, fun r hr => by cases hr.symm.trans hr1; exact o3⟩ hj hc1 hc2 hdg (fun H1 locs1 hR1 => k _ _ _ _ hR1)
        · cases hs
      · cases hs
    · rename_i x j r
      split at hs
      · rename_i t n f hj
        split at hs
        · rename_i hc
          cases hs
          obtain ⟨C, ht⟩ : ∃ C, aty[t]? = some (.object C) := by
            cases ha : aty[t]? with
            | none => rw [ha] at hc; simp at hc
            | some ty =>
              rw [ha] at hc
              cases ty <;> first | exact ⟨_, rfl⟩ | (simp [ab_isR] at hc)
          have hin := ab_ix_in hc.2
          exact va_WaastN (C := C) hx hb (hR.1 j _ hj) ((hKA t _ ht).1 n _) (fun h => by cases h) (by rw [arrV_size]; exact hin) rfl rfl hdg fun H1 e1 e2 e3 => k _ _ _ _ (ab_ast hR hj (v := .null) e1 e2 e3)
        · cases hs
      · cases hs
    · cases hs
  all_goals (simp only [ab_s4] at hs; cases hs)
end AB4
end
section
/-! System.arraycopy between two new rows of one kind -/
/-- a row of this kind may take this value -/
def ab_el (t : Nat) (ty : FieldType) (sb : List (Nat × Nat)) (oo : Nat → Option (Nat × List Value)) (h : ab_H) (v : Value) : Bool := match ty, v with
  | .byte, .int x => fits .byte (.int x)
  | .object _, .null => true
  | .object _, .ref q => (match h[q]? with
    | some (.inr (ci, _)) => sb.contains (t, ci)
    | _ => false)
  | .object _, .float w => (match oo w.toNat with
    | some (ci, _) => sb.contains (t, ci)
    | none => false)
  | _, _ => false
def ab_cpok (aty : List FieldType) (sb : List (Nat × Nat)) (oo : Nat → Option (Nat × List Value)) (h : ab_H) (t n0 n1 : Nat) (f : Nat → Value) (sp dp n : Int32) : Prop :=
  ¬ sp < 0 ∧ ¬ dp < 0 ∧ ¬ n < 0 ∧ sp.toNatClampNeg + n.toNatClampNeg ≤ n0 ∧ dp.toNatClampNeg + n.toNatClampNeg ≤ n1 ∧ ∃ ty, aty[t]? = some ty ∧ ∀ i, i < n.toNatClampNeg → ab_el t ty sb oo h (f (sp.toNatClampNeg + i)) = true
section AB8
variable {p : Program} {l : Launch} {e : Env} {R : Room} {s : State} {m : MethodId} {args : Array Value} {below : List Frame} {meth : Method} {c : Code} {H : Heap} {locs : List Loc} {cells slots : Nat} {Q : State → Prop}
variable {cc : ByteArray} {pc B n0 z0 NC NS : Nat} {od : Nat → Nat} {h : ab_H} {ls : Array Slot} {own : String}
variable {D : va_G} {dA : Nat → ClassId} {cl : List vw_C} {aty : List FieldType} {sb : List (Nat × Nat)} {oo : Nat → Option (Nat × List Value)} {Ts : List Cond}
/-- an object of class ci, in the heap, may lie in a row of kind t -/
theorem ab_takes (hTs : ∀ w ∈ Ts, va_Nw w s) (hKC : ab_KC D cl s) (hKA : ab_KA dA aty s) (hsb : ∀ t ci, (t, ci) ∈ sb → ∃ (E : String) (r : vw_C), aty[t]? = some (.object E) ∧ cl[ci]? = some r ∧ (r.1 = E ∨ Cond.castable r.1 E ∈ Ts)) {t ci : Nat} (hin : (t, ci) ∈ sb) {cellV : Cell} (g3 : ∀ r : vw_C, cl[ci]? = some r → s.vm.findClass r.1 = some cellV.cls) {kA : Class} {comp : ClassId} {ty : FieldType} (k1 : s.vm.classes[dA t]? = some kA) (k2 : kA.kind = .array comp ty) :
    (∃ kC, s.vm.classes[cellV.cls]? = some kC) ∧ (∃ kE, s.vm.classes[comp]? = some kE) ∧ s.vm.assignable cellV.cls comp = true := by
  obtain ⟨E, r1, ht, hr1, hw⟩ := hsb t ci hin
  obtain ⟨hA1, hA2, -⟩ := hKA t _ ht
  obtain ⟨kA', comp', k1', k2', k3, -⟩ := hA2
  cases k1.symm.trans k1'
  cases k2.symm.trans k2'
  obtain ⟨kE, hkE, -⟩ := Vm.findClass_spec k3
  have g3 := g3 r1 hr1
  have f3 : s.vm.assignable cellV.cls comp = true := by
    rcases hw with rfl | hw
    · cases g3.symm.trans k3
      have hca := (hKC ci r1 hr1).1.2
      have he := Option.some.inj (hca.1.symm.trans g3)
      have h1 := va_assign hca
      rw [he] at h1
      exact h1
    · obtain ⟨c0, t1, f1, f2, f3⟩ := Cond.castable_spec (hTs _ hw)
      cases g3.symm.trans f1
      cases k3.symm.trans f2
      exact f3
  obtain ⟨kC, hkC, -⟩ := Vm.findClass_spec g3
  exact ⟨⟨kC, hkC⟩, ⟨kE, hkE⟩, f3⟩
set_option maxHeartbeats 4000000 in
theorem ab_copy (hx : p.tables.exec = Jvm.exec) (hb : c.code = cc) (hml : c.maxLocals = ls.size) (hown : s.vm.findClass own = some m.cls) {index : Nat} (hlink : (Cond.methodLink own index arraycopyName).before args s = true) (hnat : (Cond.native arraycopyName).before args s = true) (hstat : (Cond.static arraycopyName).before args s = true) (hini : (Cond.initialized "java/lang/System").before args s = true)
    (hTs : ∀ w ∈ Ts, va_Nw w s) (hKC : ab_KC D cl s) (hKA : ab_KA dA aty s) (hOO : ab_OO B od cl oo s s.heap) (hsb : ∀ t ci, (t, ci) ∈ sb → ∃ (E : String) (r : vw_C), aty[t]? = some (.object E) ∧ cl[ci]? = some r ∧ (r.1 = E ∨ Cond.castable r.1 E ∈ Ts)) (hR : ab_R B od D dA cl NC NS s.heap n0 z0 h H locs cells slots)
    {t N0 N1 j0 j1 : Nat} {f g : Nat → Value} {sp dp n : Int32} {r : List Value} (h0 : h[j0]? = some (.inl (t, N0, f))) (h1 : h[j1]? = some (.inl (t, N1, g))) (hok : ab_cpok aty sb oo h t N0 N1 f sp dp n)
    (hframes : 1 ≤ R.frames) (hlocals : (r.map fun v => v.category).sum + (nativeFrameWords "java/lang/System" "arraycopy" 5 + 11) ≤ R.locals) (hdg : decode cc pc = .ok (.invokestatic index, 3))
    (k : ∀ (H1 : Heap) (locs1 : List Loc), ab_R B od D dA cl NC NS s.heap n0 z0 (h.set j1 (.inl (t, N1, va_cpy f g sp.toNatClampNeg dp.toNatClampNeg n.toNatClampNeg))) H1 locs1 cells slots → W p l e R s m args below meth c H1 locs1 cells slots Q (F0 m (pc + 3) ls r)) :
    W p l e R s m args below meth c H locs cells slots Q (F0 m pc ls (.int n :: .int dp :: .ref (B + j1) :: .int sp :: .ref (B + j0) :: r)) := by
  have nn : ∀ z : Int32, ¬ z < 0 → z.toInt = (z.toNatClampNeg : Int) := by
    intro z hz
    have hz0 : (0 : Int) ≤ z.toInt := by
      have := Int32.not_lt.mp hz
      simpa using Int32.le_iff_toInt_le.mp this
    show z.toInt = ((z.toInt.toNat : Nat) : Int)
    omega
  obtain ⟨g1, g2, g3, g4, g5, ty, hty, hel⟩ := hok
  intro T hT X
  have hc0 : H[B + j0]? = some (arrV (dA t) N0 (fun q => ab_v B od (f q))) := hR.1 j0 _ h0
  have hc1 : H[B + j1]? = some (arrV (dA t) N1 (fun q => ab_v B od (g q))) := hR.1 j1 _ h1
  obtain ⟨-, k0, hk0, cm0, hkk0⟩ := (hKA t ty hty).1 N0 (fun q => ab_v B od (f q))
  obtain ⟨vm', X', step⟩ := X.arraycopy hx hown hlink hnat hstat hini (src := B + j0) (dst := B + j1) (cs := arrV (dA t) N0 (fun q => ab_v B od (f q))) (cd := arrV (dA t) N1 (fun q => ab_v B od (g q))) (srcPos := sp) (destPos := dp) (n := n) (by rw [hT]; exact hc0) (by rw [hT]; exact hc1)
    (fun _ h => by cases h) (fun _ h => by cases h) (fun h => by cases h) (fun h => by cases h) hk0 hk0 hkk0 hkk0 (by simp) g1 g2 g3
    (by rw [nn sp g1, nn n g3, arrV_size]; omega)
    (by rw [nn dp g2, nn n g3, arrV_size]; omega)
    (fun vm₁ hal i hi => by
      have e : (arrV (dA t) N0 (fun q => ab_v B od (f q))).slots.getD (sp.toNatClampNeg + i) .null = ab_v B od (f (sp.toNatClampNeg + i)) := by
        rw [Array.getD_eq_getD_getElem?, arrV_read _ _ (by omega)]
        rfl
      rw [e]
      have hv := hel i hi
      generalize f (sp.toNatClampNeg + i) = v at hv
      unfold ab_el at hv
      split at hv
      · exact ⟨hv, trivial⟩
      · exact ⟨rfl, trivial⟩
      · rename_i C q
        split at hv
        · rename_i ci fs hq
          obtain ⟨r2, hr2, cell, q1, q2, q3, q4⟩ := hR.1 q _ hq
          obtain ⟨⟨kC, hkC⟩, ⟨kE, hkE⟩, ha⟩ := ab_takes hTs hKC hKA hsb (List.contains_iff_mem.mp hv) (cellV := cell) (fun r hr => by cases hr.symm.trans hr2; rw [q2]; exact (hKC ci _ hr2).1.2.1) hk0 hkk0
          obtain ⟨kC', hkC', -⟩ := hal.2.2 _ _ hkC
          obtain ⟨kE', hkE', -⟩ := hal.2.2 _ _ hkE
          refine ⟨rfl, cell, (show T.heap[B + q]? = some cell by rw [hT]; exact q1), (fun z hz => by rw [q3] at hz; cases hz), ⟨kC', hkC'⟩, ⟨kE', hkE'⟩, ?_⟩
          show vm₁.assignable _ _ = true
          rw [hal.assignable]
          exact ha
        · cases hv
      · rename_i C w
        split at hv
        · rename_i ci fs hw
          obtain ⟨r1, hr1, hO, -⟩ := hOO _ _ _ hw
          obtain ⟨cell, o1, o2, o3, -⟩ := hO.kept hR.2.2.1.2.1
          obtain ⟨⟨kC, hkC⟩, ⟨kE, hkE⟩, ha⟩ := ab_takes hTs hKC hKA hsb (List.contains_iff_mem.mp hv) (cellV := cell) (fun r hr => by cases hr.symm.trans hr1; exact o3) hk0 hkk0
          obtain ⟨kC', hkC', -⟩ := hal.2.2 _ _ hkC
          obtain ⟨kE', hkE', -⟩ := hal.2.2 _ _ hkE
          refine ⟨rfl, cell, (show T.heap[od w.toNat]? = some cell by rw [hT]; exact o1), (fun z hz => by rw [hz] at o2; cases o2), ⟨kC', hkC'⟩, ⟨kE', hkE'⟩, ?_⟩
          show vm₁.assignable _ _ = true
          rw [hal.assignable]
          exact ha
        · cases hv
      · cases hv)
    (g := F0 m pc ls (.int n :: .int dp :: .ref (B + j1) :: .int sp :: .ref (B + j0) :: r)) rfl (by rw [hml]) (rest := r) rfl (by rw [hb]; exact hdg) hframes (by show 2 * 0 + _ + _ ≤ _; omega)
  have e1 : copied (arrV (dA t) N0 (fun q => ab_v B od (f q))) (arrV (dA t) N1 (fun q => ab_v B od (g q))) sp dp n = arrV (dA t) N1 (fun q => ab_v B od (va_cpy f g sp.toNatClampNeg dp.toNatClampNeg n.toNatClampNeg q)) := va_copied (ab_v B od) (dA t) (dA t) f g g4
  rw [e1] at X' step
  have hl : B + j1 < H.size := (Array.getElem?_eq_some_iff.mp hc1).1
  generalize hH1 : H.setIfInBounds (B + j1) (arrV (dA t) N1 (fun q => ab_v B od (va_cpy f g sp.toNatClampNeg dp.toNatClampNeg n.toNatClampNeg q))) = H1
  have hheap : ((T.setVm vm').setCell (B + j1) (arrV (dA t) N1 (fun q => ab_v B od (va_cpy f g sp.toNatClampNeg dp.toNatClampNeg n.toNatClampNeg q)))).heap = H1 := by rw [← hH1, ← hT]; rfl
  have oq : ∀ q : Nat, q ≠ B + j1 → H1[q]? = H[q]? := fun q hq => by rw [← hH1]; simp [Array.getElem?_setIfInBounds, Ne.symm hq]
  have hself : H1[B + j1]? = some (arrV (dA t) N1 (fun q => ab_v B od (va_cpy f g sp.toNatClampNeg dp.toNatClampNeg n.toNatClampNeg q))) := by rw [← hH1]; simp [Array.getElem?_setIfInBounds, hl]
  have hsz : H1.size = H.size := by rw [← hH1]; simp
  have hR1 : ab_R B od D dA cl NC NS s.heap n0 z0 (h.set j1 (.inl (t, N1, va_cpy f g sp.toNatClampNeg dp.toNatClampNeg n.toNatClampNeg))) H1 (locs ++ ((arrV (dA t) N0 (fun q => ab_v B od (f q))).stretch sp.toNatClampNeg n.toNatClampNeg).zipIdx.map fun q => ⟨B + j1, dp.toNatClampNeg + q.2⟩) cells slots := by
    obtain ⟨w1, w2, w3, w4⟩ := hR.set (i := 0) (x := .inl (t, N1, va_cpy f g sp.toNatClampNeg dp.toNatClampNeg n.toNatClampNeg)) h1 rfl hself hsz oq
    refine ⟨w1, w2, ⟨w3.1, w3.2.1, fun q hq => ?_⟩, w4⟩
    rcases List.mem_append.mp hq with z | z
    · exact hR.2.2.1.2.2 q z
    · obtain ⟨y, -, hy⟩ := List.mem_map.mp z
      rw [← hy]
      exact Nat.le_add_right _ _
  obtain ⟨t', a1, b1⟩ := k H1 _ hR1 _ hheap X'
  exact ⟨t', step t' a1, b1⟩
end AB8
end
section
def ab_wt (S : List Value) : Nat := (S.map fun v => v.category).sum
/-! more instructions: instanceof, casts of old objects, class constants, getClass of a row, System.arraycopy -/
/-- the copy may be made: all of ab_cpok, computed -/
def ab_cpb (aty : List FieldType) (sb : List (Nat × Nat)) (oo : Nat → Option (Nat × List Value)) (h : ab_H) (t n0 n1 : Nat) (f : Nat → Value) (sp dp n : Int32) : Bool := match aty[t]? with
  | some ty => !(decide (sp < 0)) && !(decide (dp < 0)) && !(decide (n < 0)) && decide (sp.toNatClampNeg + n.toNatClampNeg ≤ n0) && decide (dp.toNatClampNeg + n.toNatClampNeg ≤ n1) && (List.range n.toNatClampNeg).all (fun i => ab_el t ty sb oo h (f (sp.toNatClampNeg + i)))
  | none => false
theorem ab_cpb_ok {aty : List FieldType} {sb : List (Nat × Nat)} {oo : Nat → Option (Nat × List Value)} {h : ab_H} {t n0 n1 : Nat} {f : Nat → Value} {sp dp n : Int32} (hb : ab_cpb aty sb oo h t n0 n1 f sp dp n = true) : ab_cpok aty sb oo h t n0 n1 f sp dp n := by
  unfold ab_cpb at hb
  split at hb
  · rename_i ty hty
    simp only [Bool.and_eq_true, Bool.not_eq_true', decide_eq_false_iff_not, decide_eq_true_eq, List.all_eq_true, List.mem_range] at hb
    obtain ⟨⟨⟨⟨⟨b1, b2⟩, b3⟩, b4⟩, b5⟩, b6⟩ := hb
    exact ⟨b1, b2, b3, b4, b5, ty, hty, b6⟩
  · cases hb
/-- entries of a pool: 12 a class (number in cl); 15 a class as a constant; 16 getClass (kind of row, the class's object); 18 System.arraycopy; 19 clone of a row of bytes; 24 the class of rows of bytes -/
def ab_s5 (aty : List FieldType) (sb : List (Nat × Nat)) (oo : Nat → Option (Nat × List Value)) (NC NS : Nat) (pl : Nat → Option ab_N) (i : Instr) (pc : Nat) (S : List Value) (h : ab_H) : Option (Nat × List Value × ab_H) := match i with
  | .instanceof x => (match pl x, S with
    | some (12, ci, _, _), .ref j :: r => (match h[j]? with
      | some (.inr (cj, _)) => if ci = cj then some (pc + 3, .int 1 :: r, h) else none
      | _ => none)
    | some (12, ci, _, _), .float w :: r => (match oo w.toNat with
      | some (cj, _) => if ci = cj then some (pc + 3, .int 1 :: r, h) else none
      | _ => none)
    | _, _ => none)
  | .checkcast x => (match pl x, S with
    | some (12, ci, _, _), .float w :: r => (match oo w.toNat with
      | some (cj, _) => if ci = cj then some (pc + 3, .float w :: r, h) else none
      | _ => none)
    | some (24, _, _, _), .ref j :: r => (match h[j]? with
      | some (.inl (u, _, _)) => if aty[u]? = some .byte then some (pc + 3, .ref j :: r, h) else none
      | _ => none)
    | _, _ => none)
  | .ldc x => (match pl x with
    | some (15, _, _, .float w) => some (pc + 2, .float w :: S, h)
    | _ => none)
  | .invokevirtual x => (match pl x, S with
    | some (16, t, _, .float w), .ref j :: r => (match h[j]? with
      | some (.inl (u, _, _)) => if t = u ∧ ab_wt r ≤ 20 then some (pc + 3, .float w :: r, h) else none
      | _ => none)
    | some (19, _, _, _), .ref j :: r => (match h[j]? with
      | some (.inl (u, n, f)) => if aty[u]? = some .byte ∧ ab_wt r ≤ 20 ∧ h.length + 1 ≤ NC ∧ ab_sz h + n ≤ NS ∧ (List.range n).all (fun i => ab_el u .byte sb oo h (f i)) = true then some (pc + 3, .ref h.length :: r, h ++ [.inl (u, n, f)]) else none
      | _ => none)
    | _, _ => none)
  | .invokestatic x => (match pl x, S with
    | some (18, _, _, _), .int n :: .int dp :: .ref j1 :: .int sp :: .ref j0 :: r => (match h[j0]?, h[j1]? with
      | some (.inl (t, n0, f)), some (.inl (u, n1, g)) => if t = u ∧ ab_wt r ≤ 20 ∧ ab_cpb aty sb oo h t n0 n1 f sp dp n = true then some (pc + 3, r, h.set j1 (.inl (u, n1, va_cpy f g sp.toNatClampNeg dp.toNatClampNeg n.toNatClampNeg))) else none
      | _, _ => none)
    | _, _ => none)
  | _ => none
abbrev ab_gc : MethodName := ⟨"java/lang/Object", "getClass", "()Ljava/lang/Class;"⟩
/-- what the words Ts say of such an entry -/
def ab_q5 (aty : List FieldType) (Ts : List Cond) (own : String) (x : Nat) (n : ab_N) : Prop := match n with
  | (16, t, _, _) => ∃ C : String, aty[t]? = some (.object C) ∧ Cond.methodLink own x ab_gc ∈ Ts ∧ Cond.selects ("[" ++ (FieldType.object C).toString) ab_gc ab_gc ∈ Ts ∧ Cond.instanceMethod ab_gc ∈ Ts ∧ Cond.native ab_gc ∈ Ts
  | (19, _, _, _) => Cond.methodLink own x ⟨"[B", "clone", "()Ljava/lang/Object;"⟩ ∈ Ts ∧ Cond.sameMethod "[B" "java/lang/Object" "clone" "()Ljava/lang/Object;" ∈ Ts ∧ Cond.native ⟨"java/lang/Object", "clone", "()Ljava/lang/Object;"⟩ ∈ Ts ∧ Cond.instanceMethod ⟨"java/lang/Object", "clone", "()Ljava/lang/Object;"⟩ ∈ Ts ∧ Cond.selects "[B" ⟨"[B", "clone", "()Ljava/lang/Object;"⟩ ⟨"java/lang/Object", "clone", "()Ljava/lang/Object;"⟩ ∈ Ts ∧ Cond.castable "[B" "java/lang/Cloneable" ∈ Ts
  | (24, _, _, _) => Cond.classLink own x "[B" ∈ Ts
  | (18, _, _, _) => Cond.methodLink own x arraycopyName ∈ Ts ∧ Cond.native arraycopyName ∈ Ts ∧ Cond.static arraycopyName ∈ Ts ∧ Cond.initialized "java/lang/System" ∈ Ts
  | _ => True
/-- the classes' objects -/
def ab_MI (od : Nat → Nat) (aty : List FieldType) (Ts : List Cond) (own : String) (pl : Nat → Option ab_N) (s : State) : Prop :=
  (∀ (x a b : Nat) (w : UInt32), pl x = some (15, a, b, .float w) → ∃ C : String, va_Mi C (od w.toNat) s ∧ Cond.classLink own x C ∈ Ts) ∧
  ∀ (x t b : Nat) (w : UInt32) (C : String), pl x = some (16, t, b, .float w) → aty[t]? = some (.object C) → va_Mi ("[" ++ (FieldType.object C).toString) (od w.toNat) s ∧ va_Dc s
theorem ab_MI.moved {od : Nat → Nat} {aty : List FieldType} {Ts : List Cond} {own : String} {pl : Nat → Option ab_N} {s U : State} (hvm : s.vm.Alike U.vm) (h : ab_MI od aty Ts own pl s) : ab_MI od aty Ts own pl U :=
  ⟨fun x a b w hp => by obtain ⟨C, h1, h2⟩ := h.1 x a b w hp; exact ⟨C, h1.moved hvm, h2⟩, fun x t b w C hp ht => ⟨(h.2 x t b w C hp ht).1.moved hvm, (h.2 x t b w C hp ht).2.moved hvm⟩⟩
section AB10
variable {p : Program} {l : Launch} {e : Env} {R : Room} {s : State} {m : MethodId} {args : Array Value} {below : List Frame} {meth : Method} {c : Code} {H : Heap} {locs : List Loc} {cells slots : Nat} {Q : State → Prop}
variable {cc : ByteArray} {pc pc' tg nL len B n0 z0 NC NS : Nat} {od : Nat → Nat} {S S' : List Value} {h h' : ab_H} {i : Instr} {ls : Array Slot} {own : String}
variable {D : va_G} {dA : Nat → ClassId} {cl : List vw_C} {aty : List FieldType} {sb : List (Nat × Nat)} {oo : Nat → Option (Nat × List Value)} {pl : Nat → Option ab_N} {Ts : List Cond}
set_option maxHeartbeats 8000000 in
theorem ab_s5_ok (hx : p.tables.exec = Jvm.exec) (hb : c.code = cc) (hml : c.maxLocals = ls.size) (hown : s.vm.findClass own = some m.cls) (hTs : ∀ w ∈ Ts, va_Nw w s) (hKC : ab_KC D cl s) (hKA : ab_KA dA aty s) (hOO : ab_OO B od cl oo s s.heap) (hMI : ab_MI od aty Ts own pl s)
    (hsb : ∀ t ci, (t, ci) ∈ sb → ∃ (E : String) (r : vw_C), aty[t]? = some (.object E) ∧ cl[ci]? = some r ∧ (r.1 = E ∨ Cond.castable r.1 E ∈ Ts)) (hP4 : ∀ x n, pl x = some n → ab_p4 cl aty Ts own x n) (hQ5 : ∀ x n, pl x = some n → ab_q5 aty Ts own x n) (hfr : 1 ≤ R.frames) (hlo : 100 ≤ R.locals) (hNC : NC ≤ n0 + R.cells) (hNS : NS ≤ z0 + R.slots)
    (hdg : decode cc pc = .ok (i, len)) (hlen : ab_len i = 0 ∨ len = ab_len i) (hs : ab_s5 aty sb oo NC NS pl i pc S h = some (pc', S', h')) (hR : ab_R B od D dA cl NC NS s.heap n0 z0 h H locs cells slots)
    (k : ∀ (H' : Heap) (locs' : List Loc) (cells' slots' : Nat), ab_R B od D dA cl NC NS s.heap n0 z0 h' H' locs' cells' slots' → W p l e R s m args below meth c H' locs' cells' slots' Q (F0 m pc' ls (S'.map (ab_v B od)))) :
    W p l e R s m args below meth c H locs cells slots Q (F0 m pc ls (S.map (ab_v B od))) := by
  have hwt : ∀ r : List Value, ((r.map (ab_v B od)).map fun v => v.category).sum = ab_wt r := fun r => by
    unfold ab_wt
    rw [List.map_map]
    congr 1
    apply List.map_congr_left
    intro v _
    exact ab_v_cat B od v
  have hnw : nativeFrameWords "java/lang/System" "arraycopy" 5 ≤ 60 := by decide
  rcases hlen with hlen | hlen
  · cases i
    all_goals first | (simp only [ab_s5] at hs; cases hs; done) | (revert hlen; simp [ab_len]; done)
  subst hlen
  cases i
  case instanceof x =>
    simp only [ab_s5] at hs
    split at hs
    · rename_i ci _ _ j r hp
      split at hs
      · rename_i cj fs hj
        split at hs
        · rename_i hc
          subst hc
          cases hs
          obtain ⟨r1, hr1, hl1⟩ := hP4 _ _ hp
          obtain ⟨r2, hr2, cell, q1, q2, q3, q4⟩ := hR.1 j _ hj
          have er : r1 = r2 := Option.some.inj (hr1.symm.trans hr2)
          subst er
          exact va_instS hx hb hown (va_Nw.use rfl (hTs _ hl1)) (hKC ci r1 hr1).1.2 ⟨cell, q1, by rw [q3]; rfl, by rw [q2]; exact (hKC ci r1 hr1).1.2.1⟩ hdg (k _ _ _ _ hR)
        · cases hs
      · cases hs
    · rename_i ci _ _ w r hp
      split at hs
      · rename_i cj fs hw
        split at hs
        · rename_i hc
          subst hc
          cases hs
          obtain ⟨r1, hr1, hl1⟩ := hP4 _ _ hp
          obtain ⟨r2, hr2, hO, -⟩ := hOO _ _ _ hw
          have er : r1 = r2 := Option.some.inj (hr1.symm.trans hr2)
          subst er
          obtain ⟨cell, o1, o2, o3, -⟩ := hO.kept hR.2.2.1.2.1
          exact va_instS hx hb hown (va_Nw.use rfl (hTs _ hl1)) (hKC ci r1 hr1).1.2 ⟨cell, o1, o2, o3⟩ hdg (k _ _ _ _ hR)
        · cases hs
      · cases hs
    · cases hs
  case checkcast x =>
    simp only [ab_s5] at hs
    split at hs
    · rename_i ci _ _ w r hp
      split at hs
      · rename_i cj fs hw
        split at hs
        · rename_i hc
          subst hc
          cases hs
          obtain ⟨r1, hr1, hl1⟩ := hP4 _ _ hp
          obtain ⟨r2, hr2, hO, -⟩ := hOO _ _ _ hw
          have er : r1 = r2 := Option.some.inj (hr1.symm.trans hr2)
          subst er
          obtain ⟨cell, o1, o2, o3, -⟩ := hO.kept hR.2.2.1.2.1
          exact va_castS hx hb hown (va_Nw.use rfl (hTs _ hl1)) (hKC ci r1 hr1).1.2 ⟨cell, o1, o2, o3⟩ hdg (k _ _ _ _ hR)
        · cases hs
      · cases hs
    · rename_i j r hp
      split at hs
      · rename_i u n f hj
        split at hs
        · rename_i hc
          cases hs
          have hl1 := hQ5 _ _ hp
          obtain ⟨hA1, hA2, -⟩ := hKA u _ hc
          have q1 : H[B + j]? = some (arrV (dA u) n (fun q => ab_v B od (f q))) := hR.1 j _ hj
          intro T hT X
          obtain ⟨vm', X', st⟩ := X.checkcastYes hx hown (va_Nw.use rfl (hTs _ hl1)) (by rw [hT]; exact q1) rfl (show s.vm.findClass "[B" = some (dA u) from hA2) (va_asg _ _) (g := F0 m pc ls (List.map (ab_v B od) (Value.ref j :: r))) rfl rfl (by rw [hb]; exact hdg)
          obtain ⟨t', a1, b1⟩ := (k _ _ _ _ hR) (T.setVm vm') hT X'
          exact ⟨t', st t' a1, b1⟩
        · cases hs
      · cases hs
    · cases hs
  case ldc x =>
    simp only [ab_s5] at hs
    split at hs
    · rename_i _ _ w hp
      cases hs
      obtain ⟨C, hM, hl⟩ := hMI.1 _ _ _ _ hp
      exact va_ldcM hx hb hown (va_Nw.use rfl (hTs _ hl)) hM hdg (k _ _ _ _ hR)
    · cases hs
  case invokevirtual x =>
    simp only [ab_s5] at hs
    split at hs
    · rename_i t _ w j r hp
      split at hs
      · rename_i u n f hj
        split at hs
        · rename_i hc
          obtain ⟨rfl, hc2⟩ := hc
          cases hs
          obtain ⟨C, ht, l1, l2, l3, l4⟩ := hQ5 _ _ hp
          obtain ⟨hM, hDc⟩ := hMI.2 _ _ _ _ C hp ht
          obtain ⟨hA1, hA2, -⟩ := hKA t _ ht
          obtain ⟨kA, comp, k1, k2, k3, k4⟩ := hA2
          refine va_getC hx hb hml hown (va_Nw.use rfl (hTs _ l1)) (va_Dc.use hDc) (va_Nw.use rfl (hTs _ l2)) (va_Nw.use rfl (hTs _ l3)) (va_Nw.use rfl (hTs _ l4)) hM ⟨_, hR.1 j _ hj, rfl, k4⟩ hfr ?_ hdg (k _ _ _ _ hR)
          have z := hwt r
          omega
        · cases hs
      · cases hs
    · rename_i j r hp
      split at hs
      · rename_i u n f hj
        split at hs
        · rename_i hc
          obtain ⟨ht, hc2, hc3, hc4, hc5⟩ := hc
          cases hs
          obtain ⟨l1, l2, l3, l4, l5, l6⟩ := hQ5 _ _ hp
          obtain ⟨hA1, hA2, -⟩ := hKA u _ ht
          have hnm : s.vm.findClass "[B" = some (dA u) := hA2
          obtain ⟨c0, t0', f1, f2, f3⟩ := Cond.castable_spec (hTs _ l6)
          cases hnm.symm.trans f1
          have q1 : H[B + j]? = some (arrV (dA u) n (fun q => ab_v B od (f q))) := hR.1 j _ hj
          have hfits : ∀ i, i < n → fits .byte (ab_v B od (f i)) = true := fun i hi => by
            have z := List.all_eq_true.mp hc5 i (List.mem_range.mpr hi)
            unfold ab_el at z
            split at z
            · rename_i x hx'
              rw [hx']; exact z
            · rename_i hty _; cases hty
            · rename_i hty _; cases hty
            · rename_i hty _; cases hty
            · cases z
          intro T hT X
          obtain ⟨-, kA, hkA, comp, hkind⟩ := State.isArrayOf_alike X.warmed.alike (hA1 0 (fun _ => .null))
          obtain ⟨-, kS, hkS, compS, hkindS⟩ := hA1 0 (fun _ => .null)
          have z4 := hR.2.2.2.1
          have z5 := hR.2.2.2.2.1
          obtain ⟨vm', X', st⟩ := X.cloneArray hx hown (va_Nw.use rfl (hTs _ l1)) (va_Nw.use rfl (hTs _ l2)) (va_Nw.use rfl (hTs _ l3)) (va_Nw.use rfl (hTs _ l4)) (va_Nw.use rfl (hTs _ l5)) (a := B + j) (cell := arrV (dA u) n (fun q => ab_v B od (f q))) (by rw [hT]; exact q1) (fun k h => by cases h) (fun h => by cases h) hnm f2 f3
            (fun i v hv => by
              have hk' : T.vm.classes[dA u]? = some kA := hkA
              have hi : i < n := by
                have := (Array.getElem?_eq_some_iff.mp hv).1
                rw [arrV_size] at this
                exact this
              rw [arrV_read _ _ hi] at hv
              cases hv
              simpa [State.fitsSlot, State.slotType?, arrV, hk', hkind] using hfits i hi)
            (g := F0 m pc ls (List.map (ab_v B od) (Value.ref j :: r))) rfl (by rw [hml]) rfl (by rw [hb]; exact hdg) hfr (by show 2 * 0 + _ + 14 ≤ _; have z := hwt r; omega) (by omega) (by rw [arrV_size]; omega) (hloader := Vm.clonesLoader_of_array hkS hkindS)
          rw [arrV_size] at X'
          generalize hH1 : H.push (arrV (dA u) n (fun q => ab_v B od (f q))) = H1
          have z1 : H1.size = H.size + 1 := by rw [← hH1, Array.size_push]
          have e1 : H1[H.size]? = some (arrV (dA u) n (fun q => ab_v B od (f q))) := by rw [← hH1, Array.getElem?_push_size]
          have o1 : ∀ q : Nat, q < H.size → H1[q]? = H[q]? := fun q hq => by rw [← hH1, Array.getElem?_push, if_neg (Nat.ne_of_lt hq)]
          have hR2 := hR.push (x := .inl (u, n, f)) (n := n) (H1 := H1) rfl hc3 hc4 (by show H1[B + h.length]? = some (arrV (dA u) n (fun q => ab_v B od (f q))); rw [← hR.2.1]; exact e1) z1 o1
          obtain ⟨t', b1, b2⟩ := k _ _ _ _ hR2 ((T.setVm vm').pushCell (arrV (dA u) n (fun q => ab_v B od (f q)))) (by rw [← hH1, ← hT]; rfl) X'
          refine ⟨t', st t' ?_, b2⟩
          rw [hT, hR.2.1]
          exact b1
        · cases hs
      · cases hs
    · cases hs
  case invokestatic x =>
    simp only [ab_s5] at hs
    split at hs
    · rename_i n dp j1 sp j0 r hp
      split at hs
      · rename_i t N0 f u N1 g hj0 hj1
        split at hs
        · rename_i hc
          obtain ⟨rfl, hc2, hc3⟩ := hc
          cases hs
          obtain ⟨l1, l2, l3, l4⟩ := hQ5 _ _ hp
          refine ab_copy hx hb hml hown (va_Nw.use rfl (hTs _ l1)) (va_Nw.use rfl (hTs _ l2)) (va_Nw.use rfl (hTs _ l3)) (va_Nw.use rfl (hTs _ l4)) hTs hKC hKA hOO hsb hR hj0 hj1 (ab_cpb_ok hc3) hfr ?_ hdg (fun H1 locs1 hR1 => k _ _ _ _ hR1)
          have z := hwt S'
          omega
        · cases hs
      · cases hs
    · cases hs
  all_goals (simp only [ab_s5] at hs; cases hs)
end AB10
end
section
/-! calls, throws, returns -/
/-- how an invocation ends: returned, or threw (class number, place) -/
abbrev ab_O : Type := Option Value ⊕ (Nat × Nat)
def ab_o (B : Nat) (od : Nat → Nat) (o : ab_O) : Outcome := match o with
  | .inl v => .returned (v.map (ab_v B od))
  | .inr (_, j) => .threw (B + j)
def ab_Q (below : List Frame) (s : State) (B : Nat) (od : Nat → Nat) (D : va_G) (dA : Nat → ClassId) (cl : List vw_C) (NC NS n0 z0 : Nat) (o : ab_O) (h' : ab_H) (t : State) : Prop :=
  t.status = .running ∧ Ended t below (ab_o B od o) ∧ s.WarmedH t.vm ∧ ∃ (L : List Loc) (k n : Nat), s.sameButNew ({ t with vm := s.vm } : State) L k n ∧ ab_R B od D dA cl NC NS s.heap n0 z0 h' t.heap L k n
theorem ab_steps_weaken {tb : Tables} {e : Env} {g : Frame} {below : List Frame} {a b : State} (h : Steps tb e (g :: below) a b) : Steps tb e below a b := by
  obtain ⟨n, h1, h2⟩ := h
  refine ⟨n, h1, fun k hk => ?_⟩
  obtain ⟨ab, q1, q2, q3⟩ := h2 k hk
  refine ⟨ab ++ [g], by rw [q1]; simp, by simp, fun x hx => ?_⟩
  have := congrArg List.length hx
  cases ab with
  | nil => exact q2 rfl
  | cons y ys => simp at this
section AB3
variable {p : Program} {l : Launch} {e : Env} {R : Room} {s : State} {m : MethodId} {args : Array Value} {below : List Frame} {meth : Method} {c : Code} {T : State} {H : Heap} {locs : List Loc} {cells slots : Nat}
variable {B n0 z0 NC NS : Nat} {od : Nat → Nat} {h h' : ab_H} {D : va_G} {dA : Nat → ClassId} {cl : List vw_C}
/-- where a caller goes on -/
def ab_nx (B : Nat) (od : Nat → Nat) (T' : State) (g : JFrame) (len : Nat) (o : ab_O) : State := match o with
  | .inl v => T'.setTop { g with pc := g.pc + len, stack := (v.map (ab_v B od)).toList ++ g.stack }
  | .inr (_, j) => (T'.setTop g).pushFrame (.throwing (B + j))
/-- the frame of a caller behind a callee -/
theorem ab_R.after {H0 H1 H2 : Heap} {L1 L2 : List Loc} {c1 s1 c2 s2 : Nat} (h1 : ab_R B od D dA cl NC NS H0 n0 z0 h H1 L1 c1 s1) (h2 : ab_R B od D dA cl NC NS H1 h.length (ab_sz h) h' H2 L2 c2 s2) : ab_R B od D dA cl NC NS H0 n0 z0 h' H2 (L1 ++ L2) (c1 + c2) (s1 + s2) := by
  obtain ⟨a1, a2, a3, a4, a5, -⟩ := h1
  obtain ⟨b1, b2, b3, b4, b5, b6⟩ := h2
  refine ⟨b1, b2, ⟨Nat.le_trans a3.1 b3.1, fun q x y => (b3.2.1 q (Nat.lt_of_lt_of_le x a3.1) y).trans (a3.2.1 q x y), fun q hq => ?_⟩, by omega, by omega, b6⟩
  rcases List.mem_append.mp hq with x | x
  · exact a3.2.2 q x
  · exact b3.2.2 q x
/-- a callee's run, taken into the caller's -/
theorem ab_into (X : Stand p l e R s m args below meth c T locs cells slots) (hR : ab_R B od D dA cl NC NS s.heap n0 z0 h T.heap locs cells slots) {g : JFrame} (hg : g.method = m) (hsize : g.locals.size = c.maxLocals) {ig : Instr} {len : Nat} (hdg : decode c.code g.pc = .ok (ig, len))
    {mk : MethodId} {methk : Method} {ck : Code} {a : Array Value} {R' : Room} (hmk : T.vm.method? mk = some methk) (hck : methk.code = some ck) (hlk : methk.locks = false) (hpk : T.plainMethod mk)
    (hframes : R'.frames + 1 ≤ R.frames) (hlocals : 2 * g.monitorRoom + (g.stack.map fun v => v.category).sum + (ck.maxLocals + 11) + R'.locals ≤ R.locals) (hcells : cells + R'.cells ≤ R.cells) (hslots : slots + R'.slots ≤ R.slots) {o : ab_O}
    (ih : W p l e R' (T.calling g mk a) mk a (.java g :: below) methk ck T.heap [] 0 0 (ab_Q (.java g :: below) (T.calling g mk a) B od D dA cl NC NS h.length (ab_sz h) o h') (entryFrame mk a ck.maxLocals)) :
    ∃ (T' : State) (locs' : List Loc) (cells' slots' : Nat), Stand p l e R s m args below meth c T' locs' cells' slots' ∧ ab_R B od D dA cl NC NS s.heap n0 z0 h' T'.heap locs' cells' slots' ∧
      ∀ acts, Steps p.tables e below (doInvoke e (T.setTop g) acts mk a).1 (ab_nx B od T' g len o) := by
  obtain ⟨Y, hin⟩ := X.into hg hsize hdg a (R' := R') hmk hck hlk hpk hframes hlocals hcells hslots
  have hh0 : ((T.setTop g).pushFrame (.java (entryFrame mk a ck.maxLocals))).heap = T.heap := rfl
  obtain ⟨t, st, h1, h2, h3, L, k, n, h4, h5⟩ := ih _ hh0 Y
  have h5' : ab_R B od D dA cl NC NS T.heap h.length (ab_sz h) h' t.heap L k n := h5
  rcases o with v | ⟨ce, j⟩
  · obtain ⟨T', X', hW, -, et⟩ := X.outOf hg hdg h2 h3 h4
    have eh : T'.heap = t.heap := by rw [et]; rfl
    refine ⟨T', _, _, _, X', by rw [eh]; exact hR.after h5', fun acts => ?_⟩
    rw [hin acts]
    show Steps p.tables e below _ (T'.setTop { g with pc := g.pc + len, stack := (v.map (ab_v B od)).toList ++ g.stack })
    rw [← et]
    exact ab_steps_weaken st
  · obtain ⟨T', X', hW, -, et⟩ := X.outOfThrown hg h2 h3 h4
    have eh : T'.heap = t.heap := by rw [et]; rfl
    refine ⟨T', _, _, _, X', by rw [eh]; exact hR.after h5', fun acts => ?_⟩
    rw [hin acts]
    show Steps p.tables e below _ ((T'.setTop g).pushFrame (.throwing (B + j)))
    rw [← et]
    exact ab_steps_weaken st
/-- the invocation begins anew in the middle: what was done before is past -/
theorem ab_rebase (X : Stand p l e R s m args below meth c T locs cells slots) {R' : Room} (h1 : R'.frames ≤ R.frames) (h2 : R'.locals ≤ R.locals) (h3 : cells + R'.cells ≤ R.cells) (h4 : slots + R'.slots ≤ R.slots) :
    Stand p l e R' (T.setFrames (.invoking m args :: below)) m args below meth c T [] 0 0 := by
  obtain ⟨g₀, hfr⟩ := X.frames_eq
  have hcur : T.cur < T.threads.size := State.cur_lt_of_frames hfr
  obtain ⟨th, hth, -⟩ := State.frames_cons hfr
  have hF : (T.setFrames (.invoking m args :: below)).frames = .invoking m args :: below := State.frames_setFrames _ hcur
  have hm : (T.setFrames (.invoking m args :: below)).vm.method? m = some meth := X.method'
  have hroom : (T.setFrames (.invoking m args :: below)).hasRoom e.platform R' = true := by
    obtain ⟨r1, r2, r3, r4⟩ := State.hasRoom_stack X.room
    have r5 := State.hasRoom_real X.room
    have hh := X.room
    simp only [State.hasRoom, Bool.and_eq_true, decide_eq_true_eq] at hh
    rw [State.localsInUse_invoking X.frames X.method X.code] at r3 r4 r5
    rw [X.frames, List.length_cons] at r1 r2
    have hU : (T.setFrames (.invoking m args :: below)).localsInUse = stackWeight below + vmFrameWords + (c.maxLocals + 11) := State.localsInUse_invoking hF hm X.code
    simp only [State.hasRoom, Bool.and_eq_true, decide_eq_true_eq, hF, hU, List.length_cons, State.stackLimits_setFrames, State.stackBytes_setFrames, X.limits, X.bytes]
    refine ⟨⟨⟨⟨by omega, by omega, by omega, by omega, by omega, hh.1.1.1.2.2.2.2.2⟩, ?_⟩, ?_⟩, X.book⟩
    · have := hh.1.1.2
      have := X.heapSize
      show T.heap.size + R'.cells ≤ e.platform.maxCells
      omega
    · have := hh.1.2
      have := X.used
      show T.slotsUsed + R'.slots ≤ e.platform.maxSlots
      omega
  have hcode : ∀ mm : MethodId, (T.setFrames (.invoking m args :: below)).code? mm = s.code? mm := fun mm => by
    rw [State.code?_eq, State.code?_eq]
    show (T.vm.method? mm).bind _ = _
    rw [X.warmed.alike.method?]
  have hmeth : ∀ mm : MethodId, (T.setFrames (.invoking m args :: below)).vm.method? mm = s.vm.method? mm := fun mm => X.warmed.alike.method? mm
  have hhears : (T.setFrames (.invoking m args :: below)).hears m below = true := by
    have hq := X.hears
    cases hb : below with
    | nil => rw [hb] at hq; simp only [State.hears] at hq ⊢; rw [← hb, hmeth]; exact hq
    | cons f r =>
      rw [hb] at hq
      cases f <;> simp only [State.hears] at hq ⊢ <;> first | (rw [← hb, hcode]; exact hq) | (rw [← hb, hmeth]; exact hq) | exact hq
  refine ⟨X.admits, X.cas, X.clock, hF, hroom, hhears, hm, X.code, X.here, X.tail, State.WarmedH.refl _, by rw [State.stackLimits_setFrames], by rw [State.stackBytes_setFrames], ?_⟩
  have h0 := (State.sameButNew.refl (T.setFrames (.invoking m args :: below)) (State.frames_cons hF).choose_spec.1).setFrames T.frames (by exact State.cur_lt_of_frames hF)
  have e0 : ((T.setFrames (.invoking m args :: below)).setFrames T.frames) = T := by
    rw [State.setFrames_setFrames, State.setFrames_self hth]
  rw [e0] at h0
  exact h0
end AB3
end
section
/-! methods, the run, its soundness -/
/-- name, bytes, locals, type of the answer, number of parameters, static, handlers, pool, code (pc, instruction, length, target) -/
abbrev ab_M : Type := MethodName × ByteArray × Nat × Option FieldType × Nat × Bool × List (Nat × Nat × Nat × Nat) × (Nat → Option ab_N) × List (Nat × Instr × Nat × Nat)
abbrev my_y (M : ab_M) : MethodName := M.1
abbrev my_b (M : ab_M) : ByteArray := M.2.1
abbrev my_l (M : ab_M) : Nat := M.2.2.1
abbrev my_r (M : ab_M) : Option FieldType := M.2.2.2.1
abbrev my_n (M : ab_M) : Nat := M.2.2.2.2.1
abbrev my_s (M : ab_M) : Bool := M.2.2.2.2.2.1
abbrev my_h (M : ab_M) : List (Nat × Nat × Nat × Nat) := M.2.2.2.2.2.2.1
abbrev my_p (M : ab_M) : Nat → Option ab_N := M.2.2.2.2.2.2.2.1
abbrev my_c (M : ab_M) : List (Nat × Instr × Nat × Nat) := M.2.2.2.2.2.2.2.2
def ab_fe (M : ab_M) (pc : Nat) : Option (Instr × Nat × Nat) := ((my_c M).find? (fun q => q.1 == pc)).map (fun q => q.2)
/-- the code table is the bytes' own -/
def ab_ck (M : ab_M) : Prop := ∀ q ∈ my_c M, decode (my_b M) q.1 = .ok (q.2.1, q.2.2.1) ∧ (ab_len q.2.1 = 0 ∨ q.2.2.1 = ab_len q.2.1) ∧ ∀ off, ab_off q.2.1 = some off → (q.1 : Int) + off = (q.2.2.2 : Int)
theorem ab_fe_ok {M : ab_M} (hc : ab_ck M) {pc len tg : Nat} {i : Instr} (h : ab_fe M pc = some (i, len, tg)) : decode (my_b M) pc = .ok (i, len) ∧ (ab_len i = 0 ∨ len = ab_len i) ∧ ∀ off, ab_off i = some off → (pc : Int) + off = (tg : Int) := by
  unfold ab_fe at h
  cases hf : (my_c M).find? (fun q => q.1 == pc) with
  | none => rw [hf] at h; cases h
  | some q =>
    rw [hf] at h
    have h1 := List.mem_of_find?_eq_some hf
    have h2 : q.1 = pc := by
      have z := List.find?_some hf
      simpa using z
    have h3 : q.2 = (i, len, tg) := Option.some.inj h
    have h4 := hc q h1
    rw [h3, h2] at h4
    exact h4
/-- returns -/
def ab_rt (M : ab_M) (i : Instr) (S : List Value) : Option (Option Value) := match i, S with
  | .ireturn, [.int v] => (match my_r M with
    | some ty => if ab_ft ty (.int v) = true then some (some (.int v)) else none
    | none => none)
  | .lreturn, [.long v] => if my_r M = some .long then some (some (.long v)) else none
  | .areturn, [.ref v] => (match my_r M with
    | some (.object _) => some (some (.ref v))
    | some (.array _) => some (some (.ref v))
    | _ => none)
  | .areturn, [.null] => (match my_r M with
    | some (.object _) => some (some .null)
    | some (.array _) => some (some .null)
    | _ => none)
  | .return_, [] => if my_r M = none then some none else none
  | _, _ => none
/-- switches -/
def ab_sw (pc : Nat) (i : Instr) (S : List Value) : Option (Nat × List Value) := match i, S with
  | .tableswitch dflt lo hi offs, .int x :: r => if x.toInt < lo ∨ hi < x.toInt then (if 0 ≤ (pc : Int) + dflt then some (((pc : Int) + dflt).toNat, r) else none) else (match offs[(x.toInt - lo).toNat]? with
    | some off => if 0 ≤ (pc : Int) + off then some (((pc : Int) + off).toNat, r) else none
    | none => none)
  | .lookupswitch dflt ps, .int x :: r => if (ps.toList.zip (ps.toList.drop 1)).all (fun (a, next) => a.1 < next.1) = true ∧ 0 ≤ (pc : Int) + Op.lookupswitch.offset ps.toList dflt x.toInt then some (((pc : Int) + Op.lookupswitch.offset ps.toList dflt x.toInt).toNat, r) else none
  | _, _ => none
/-- a call: the method's number, its arguments, what is left on the stack -/
def ab_cs (cl : List vw_C) (mt : List ab_M) (pl : Nat → Option ab_N) (i : Instr) (S : List Value) (h : ab_H) : Option (Nat × List Value × List Value) := match i with
  | .invokestatic x => (match pl x with
    | some (1, j, _, _) => (match mt[j]? with
      | some N => if my_s N = true ∧ my_n N ≤ S.length then some (j, (S.take (my_n N)).reverse, S.drop (my_n N)) else none
      | none => none)
    | _ => none)
  | .invokevirtual x => (match pl x with
    | some (1, j, nst, _) => (match mt[j]? with
      | some N => (match S.drop (my_n N) with
        | .ref q :: r => (match h[q]? with
          | some (.inr (ci, _)) => if my_s N = false ∧ my_n N ≤ S.length ∧ (cl[ci]?).map (fun z => z.1) = some (my_y N).cls ∧ (nst = 2 ∨ nst = 3) then some (j, .ref q :: (S.take (my_n N)).reverse, r) else none
          | _ => none)
        | _ => none)
      | none => none)
    | _ => none)
  | .invokespecial x => (match pl x with
    | some (1, j, _, _) => (match mt[j]? with
      | some N => (match S.drop (my_n N) with
        | .ref q :: r => if my_s N = false ∧ my_n N ≤ S.length ∧ (my_y N).name = "<init>" ∧ my_r N = none ∧ my_h N = [] then some (j, .ref q :: (S.take (my_n N)).reverse, r) else none
        | _ => none)
      | none => none)
    | _ => none)
  | _ => none
/-- entries of a pool: 20 a method (number) that a receiver of class cr (number in cl) inherits; 21 the superclass's own method -/
def ab_cs5 (cl : List vw_C) (oo : Nat → Option (Nat × List Value)) (mt : List ab_M) (pl : Nat → Option ab_N) (i : Instr) (S : List Value) (h : ab_H) : Option (Nat × List Value × List Value) := match i with
  | .invokevirtual x => (match pl x with
    | some (20, j, cr, _) => (match mt[j]? with
      | some N => (match S.drop (my_n N) with
        | .ref q :: r => (match h[q]? with
          | some (.inr (ci, _)) => if my_s N = false ∧ my_n N ≤ S.length ∧ ci = cr then some (j, .ref q :: (S.take (my_n N)).reverse, r) else none
          | _ => none)
        | _ => none)
      | none => none)
    | some (1, j, nst, _) => (match mt[j]? with
      | some N => (match S.drop (my_n N) with
        | .float w :: r => (match oo w.toNat with
          | some (ci, _) => if my_s N = false ∧ my_n N ≤ S.length ∧ (cl[ci]?).map (fun z => z.1) = some (my_y N).cls ∧ nst = 2 then some (j, .float w :: (S.take (my_n N)).reverse, r) else none
          | _ => none)
        | _ => none)
      | none => none)
    | _ => none)
  | .invokespecial x => (match pl x with
    | some (21, j, _, _) => (match mt[j]? with
      | some N => (match S.drop (my_n N) with
        | .ref q :: r => (match h[q]? with
          | some (.inr (_, _)) => if my_s N = false ∧ my_n N ≤ S.length ∧ (my_y N).name ≠ "<init>" then some (j, .ref q :: (S.take (my_n N)).reverse, r) else none
          | _ => none)
        | _ => none)
      | none => none)
    | _ => none)
  | _ => none
def ab_call (cl : List vw_C) (oo : Nat → Option (Nat × List Value)) (mt : List ab_M) (pl : Nat → Option ab_N) (i : Instr) (S : List Value) (h : ab_H) : Option (Nat × List Value × List Value) := match ab_cs cl mt pl i S h with
  | some z => some z
  | none => ab_cs5 cl oo mt pl i S h
/-- Object's constructor -/
def ab_ob (pl : Nat → Option ab_N) (i : Instr) (S : List Value) : Option (List Value) := match i with
  | .invokespecial x => (match pl x, S with
    | some (5, _, _, _), .ref _ :: r => if ab_wt r ≤ 20 then some r else none
    | _, _ => none)
  | _ => none
/-- throw new E("text"): the class's number -/
def ab_th (M : ab_M) (pc : Nat) : Option (Nat × Nat × Nat × Nat) := match ab_fe M pc, ab_fe M (pc + 3), ab_fe M (pc + 4), ab_fe M (pc + 6), ab_fe M (pc + 9) with
  | some (.new a, _, _), some (.dup, _, _), some (.ldc b, _, _), some (.invokespecial d, _, _), some (.athrow, _, _) => (match my_p M a, my_p M b, my_p M d with
    | some (9, ce, _, _), some (7, _, _, .float _), some (10, cf, _, _) => if ce = cf ∧ my_h M = [] then some (ce, a, b, d) else none
    | _, _, _ => none)
  | _, _, _, _, _ => none
/-- throw new E() -/
def ab_th0 (M : ab_M) (pc : Nat) : Option (Nat × Nat × Nat) := match ab_fe M pc, ab_fe M (pc + 3), ab_fe M (pc + 4), ab_fe M (pc + 7) with
  | some (.new a, _, _), some (.dup, _, _), some (.invokespecial d, _, _), some (.athrow, _, _) => (match my_p M a, my_p M d with
    | some (9, ce, _, _), some (14, cf, _, _) => if ce = cf ∧ my_h M = [] then some (ce, a, d) else none
    | _, _ => none)
  | _, _, _, _ => none
/-- the handler of an exception of class ce thrown at pc: catch types are entries (11, class, ..) of the pool; nc: pairs of classes of which the first can't be cast to the second -/
def ab_hd (M : ab_M) (nc : List (Nat × Nat)) (pc ce : Nat) : List (Nat × Nat × Nat × Nat) → Option Nat
  | [] => none
  | q :: r => if q.1 ≤ pc ∧ pc < q.2.1 then (match my_p M q.2.2.2 with
      | some (11, cj, _, _) => if ce = cj then some q.2.2.1 else if (ce, cj) ∈ nc then ab_hd M nc pc ce r else none
      | _ => none) else ab_hd M nc pc ce r
def ab_isx (h : ab_H) (q ce : Nat) : Bool := match h[q]? with
  | some (.inr (c, _)) => c == ce
  | _ => false
theorem ab_isx_ok {h : ab_H} {q ce : Nat} (hq : ab_isx h q ce = true) : ∃ fs, h[q]? = some (.inr (ce, fs)) := by
  unfold ab_isx at hq
  split at hq
  · rename_i c fs he
    have : c = ce := by simpa using hq
    subst this
    exact ⟨fs, he⟩
  · cases hq
def ab_run (cl : List vw_C) (ct : Nat → Nat → FieldType) (cd : Nat → List Value) (aty : List FieldType) (oa : Nat → Option (FieldType × Nat × (Nat → Value))) (oo : Nat → Option (Nat × List Value)) (sb : List (Nat × Nat)) (NC NS : Nat) (nc : List (Nat × Nat)) (mt : List ab_M) : Nat → Nat → Nat → Nat → ab_L → List Value → ab_H → Option (ab_O × ab_H)
  | 0, _, _, _, _, _, _ => none
  | n + 1, d, mi, pc, L, S, h => match mt[mi]? with
    | none => none
    | some M => match ab_fe M pc with
      | none => none
      | some (i, _, tg) => match ab_s1 (my_l M) i pc tg L S with
        | some (pc', L', S') => ab_run cl ct cd aty oa oo sb NC NS nc mt n d mi pc' L' S' h
        | none => match ab_s2 cl ct cd aty oa NC NS (my_p M) ((my_y M).name == "<init>") i pc S h with
          | some (pc', S', h') => ab_run cl ct cd aty oa oo sb NC NS nc mt n d mi pc' L S' h'
          | none => match ab_rt M i S with
            | some v => some (.inl v, h)
            | none => match ab_sw pc i S with
              | some (pc', S') => ab_run cl ct cd aty oa oo sb NC NS nc mt n d mi pc' L S' h
              | none => match ab_ob (my_p M) i S with
                | some S' => ab_run cl ct cd aty oa oo sb NC NS nc mt n d mi (pc + 3) L S' h
                | none => match ab_call cl oo mt (my_p M) i S h with
                  | some (j, as, r) => (match d, mt[j]? with
                    | d' + 1, some N => if ab_wt r + my_l N + 11 ≤ 64 ∧ (lg_sl as).length ≤ my_l N ∧ j ≠ 0 then (match ab_run cl ct cd aty oa oo sb NC NS nc mt n d' j 0 (lv_args 0 as) [] h with
                        | some (.inl v, h') => ab_run cl ct cd aty oa oo sb NC NS nc mt n d mi (pc + 3) L (v.toList ++ r) h'
                        | some (.inr (ce, q), h') => if my_h M = [] then some (.inr (ce, q), h') else if ab_isx h' q ce = true then (match ab_hd M nc pc ce (my_h M) with
                          | some hp => ab_run cl ct cd aty oa oo sb NC NS nc mt n d mi hp L [.ref q] h'
                          | none => none) else none
                        | none => none) else none
                    | _, _ => none)
                  | none => match ab_th M pc with
                    | some (ce, _, _, _) => if h.length + 1 ≤ NC ∧ ab_sz h + 6 ≤ NS ∧ S = [] then some (.inr (ce, h.length), h ++ [.inr (ce, List.replicate 6 .null)]) else none
                    | none => match ab_th0 M pc with
                      | some (ce, _, _) => if h.length + 1 ≤ NC ∧ ab_sz h + 6 ≤ NS ∧ S = [] then some (.inr (ce, h.length), h ++ [.inr (ce, List.replicate 6 .null)]) else none
                      | none => match ab_s4 aty oa sb oo NC NS (my_p M) i pc tg S h with
                        | some (pc', S', h') => ab_run cl ct cd aty oa oo sb NC NS nc mt n d mi pc' L S' h'
                        | none => match ab_s5 aty sb oo NC NS (my_p M) i pc S h with
                          | some (pc', S', h') => ab_run cl ct cd aty oa oo sb NC NS nc mt n d mi pc' L S' h'
                          | none => none
end
section
section AB5
variable {p : Program} {l : Launch} {e : Env} {R : Room} {s : State} {m : MethodId} {args : Array Value} {below : List Frame} {meth : Method} {c : Code} {T : State} {H : Heap} {locs : List Loc} {cells slots : Nat} {Q : State → Prop}
variable {B n0 z0 NC NS pc len : Nat} {od : Nat → Nat} {h h' : ab_H} {D : va_G} {dA : Nat → ClassId} {cl : List vw_C} {M : ab_M} {i : Instr} {S S' : List Value} {ls : Array Slot} {cc : ByteArray}
theorem ab_W.mono {Q' : State → Prop} {g : JFrame} (w : W p l e R s m args below meth c H locs cells slots Q g) (hq : ∀ t, Q t → Q' t) : W p l e R s m args below meth c H locs cells slots Q' g := fun T hT X => by
  obtain ⟨t, a, b⟩ := w T hT X
  exact ⟨t, a, hq t b⟩
theorem ab_MQ (hR : ab_R B od D dA cl NC NS s.heap n0 z0 h H locs cells slots) {o : ab_O} {t : State} (hq : MQ below (fun _ _ oc t => oc = ab_o B od o ∧ t.heap = H) args s cells slots (fun q => B ≤ q) t) : ab_Q below s B od D dA cl NC NS n0 z0 o h t := by
  obtain ⟨oc, h1, h2, ⟨h3, h4⟩, L, ⟨-, h6, h7⟩, h8⟩ := hq
  subst h3
  refine ⟨h1, h2, h6, L, cells, slots, h7, ?_⟩
  rw [h4]
  exact ⟨hR.1, hR.2.1, ⟨hR.2.2.1.1, hR.2.2.1.2.1, h8⟩, hR.2.2.2⟩
set_option maxHeartbeats 2000000 in
theorem ab_rt_ok (hx : p.tables.exec = Jvm.exec) (hb : c.code = cc) (hr : meth.sig.returnType = my_r M) (hlocks : meth.locks = false) (hdg : decode cc pc = .ok (i, len)) (hlen : ab_len i = 0 ∨ len = ab_len i) {v : Option Value} (hs : ab_rt M i S = some v) (hR : ab_R B od D dA cl NC NS s.heap n0 z0 h H locs cells slots) :
    W p l e R s m args below meth c H locs cells slots (ab_Q below s B od D dA cl NC NS n0 z0 (.inl v) h) (F0 m pc ls (S.map (ab_v B od))) := by
  have hf : ∀ q ∈ locs, B ≤ q.base := hR.2.2.1.2.2
  unfold ab_rt at hs
  split at hs
  · rename_i x
    have hl : len = 1 := by rcases hlen with q | q; exact absurd q (by decide); exact q
    subst hl
    split at hs
    · rename_i ty hty
      split at hs
      · rename_i hft
        cases hs
        exact ab_W.mono (W.zret (v := x) (Qc := fun _ _ oc t => oc = ab_o B od (.inl (some (.int x))) ∧ t.heap = H) (free := fun q => B ≤ q) hx hb (hr.trans hty) (ab_ft_ok (B := B) (od := od) hft).1 (fun t ht _ => ⟨rfl, ht⟩) hf hdg) (fun t => ab_MQ hR)
      · cases hs
    · cases hs
  · rename_i x
    have hl : len = 1 := by rcases hlen with q | q; exact absurd q (by decide); exact q
    subst hl
    split at hs
    · rename_i hty
      cases hs
      exact ab_W.mono (W.lret (v := x) (Qc := fun _ _ oc t => oc = ab_o B od (.inl (some (.long x))) ∧ t.heap = H) (free := fun q => B ≤ q) hx hb (hr.trans hty) (fun t ht _ => ⟨rfl, ht⟩) hf hdg) (fun t => ab_MQ hR)
    · cases hs
  · rename_i x
    have hl : len = 1 := by rcases hlen with q | q; exact absurd q (by decide); exact q
    subst hl
    split at hs
    · rename_i nm hty
      cases hs
      exact ab_W.mono (W.aret (v := .ref (B + x)) (Qc := fun _ _ oc t => oc = ab_o B od (.inl (some (.ref x))) ∧ t.heap = H) (free := fun q => B ≤ q) hx hb (hr.trans hty) (Or.inl ⟨_, rfl⟩) (Or.inr ⟨_, rfl⟩) (fun t ht _ => ⟨rfl, ht⟩) hf hdg) (fun t => ab_MQ hR)
    · rename_i nm hty
      cases hs
      exact ab_W.mono (W.aret (v := .ref (B + x)) (Qc := fun _ _ oc t => oc = ab_o B od (.inl (some (.ref x))) ∧ t.heap = H) (free := fun q => B ≤ q) hx hb (hr.trans hty) (Or.inr ⟨_, rfl⟩) (Or.inr ⟨_, rfl⟩) (fun t ht _ => ⟨rfl, ht⟩) hf hdg) (fun t => ab_MQ hR)
    · cases hs
  · have hl : len = 1 := by rcases hlen with q | q; exact absurd q (by decide); exact q
    subst hl
    split at hs
    · rename_i nm hty
      cases hs
      exact ab_W.mono (W.aret (v := .null) (Qc := fun _ _ oc t => oc = ab_o B od (.inl (some .null)) ∧ t.heap = H) (free := fun q => B ≤ q) hx hb (hr.trans hty) (Or.inl ⟨_, rfl⟩) (Or.inl rfl) (fun t ht _ => ⟨rfl, ht⟩) hf hdg) (fun t => ab_MQ hR)
    · rename_i nm hty
      cases hs
      exact ab_W.mono (W.aret (v := .null) (Qc := fun _ _ oc t => oc = ab_o B od (.inl (some .null)) ∧ t.heap = H) (free := fun q => B ≤ q) hx hb (hr.trans hty) (Or.inr ⟨_, rfl⟩) (Or.inl rfl) (fun t ht _ => ⟨rfl, ht⟩) hf hdg) (fun t => ab_MQ hR)
    · cases hs
  · have hl : len = 1 := by rcases hlen with q | q; exact absurd q (by decide); exact q
    subst hl
    split at hs
    · rename_i hty
      cases hs
      exact ab_W.mono (W.vret (Qc := fun _ _ oc t => oc = ab_o B od (.inl none) ∧ t.heap = H) (free := fun q => B ≤ q) hx hb (hr.trans hty) (fun t ht _ => ⟨rfl, ht⟩) hf hdg) (fun t => ab_MQ hR)
    · cases hs
  · cases hs
theorem ab_sw_ok (hx : p.tables.exec = Jvm.exec) (hb : c.code = cc) (hdg : decode cc pc = .ok (i, len)) {pc' : Nat} (hs : ab_sw pc i S = some (pc', S'))
    (k : W p l e R s m args below meth c H locs cells slots Q (F0 m pc' ls (S'.map (ab_v B od)))) : W p l e R s m args below meth c H locs cells slots Q (F0 m pc ls (S.map (ab_v B od))) := by
  unfold ab_sw at hs
  split at hs
  · rename_i dflt lo hi offs x r
    split at hs
    · rename_i hc
      split at hs
      · rename_i h0
        cases hs
        exact lv_tableOut hx hb hdg hc (by omega) k
      · cases hs
    · rename_i hc
      split at hs
      · rename_i off ho
        split at hs
        · rename_i h0
          cases hs
          exact lv_tableIn hx hb hdg (fun q => hc (Or.inl q)) (fun q => hc (Or.inr q)) ho (by omega) k
        · cases hs
      · cases hs
  · rename_i dflt ps x r
    split at hs
    · rename_i hc
      cases hs
      exact lv_lookup hx hb hdg hc.1 rfl (by omega) k
    · cases hs
  · cases hs
theorem ab_ob_ok (hx : p.tables.exec = Jvm.exec) (hb : c.code = cc) {own : String} (hown : s.vm.findClass own = some m.cls) {pl : Nat → Option ab_N} (hml : ls.size = c.maxLocals) (hfr : 1 ≤ R.frames) (hlo : 40 ≤ R.locals)
    (h5 : ∀ x a b v, pl x = some (5, a, b, v) → va_Nw (.methodLink own x Lib.objectInit) s ∧ va_Nw (.instanceMethod Lib.objectInit) s ∧ va_Nw (.code Lib.objectInit ⟨#[0xb1]⟩ 1 none) s)
    (hdg : decode cc pc = .ok (i, len)) (hlen : ab_len i = 0 ∨ len = ab_len i) (hs : ab_ob pl i S = some S')
    (k : W p l e R s m args below meth c H locs cells slots Q (F0 m (pc + 3) ls (S'.map (ab_v B od)))) : W p l e R s m args below meth c H locs cells slots Q (F0 m pc ls (S.map (ab_v B od))) := by
  unfold ab_ob at hs
  split at hs
  · rename_i x
    have hl : len = 3 := by rcases hlen with q | q; exact absurd q (by simp [ab_len]); exact q
    subst hl
    split at hs
    · rename_i a b v j r hp
      split at hs
      · rename_i hw
        cases hs
        obtain ⟨w1, w2, w3⟩ := h5 _ _ _ _ hp
        have e1 : ((S'.map (ab_v B od)).map fun v => v.category) = (S'.map fun v => v.category) := by
          rw [List.map_map]
          apply List.map_congr_left
          intro v _
          exact ab_v_cat B od v
        have e2 : ((S'.map (ab_v B od)).map fun v => v.category).sum ≤ 20 := by rw [e1]; exact hw
        refine W.objInit hx hb hown (va_Nw.use rfl w1) (va_Nw.use rfl w2) (va_Nw.use rfl w3) rfl hml rfl hdg hfr ?_ k
        have e3 : (F0 m pc ls (List.map (ab_v B od) (Value.ref j :: S'))).monitorRoom = 0 := rfl
        rw [e3]
        omega
      · cases hs
    · cases hs
  · cases hs
end AB5
end
section
/-- what the words Ts say of a method -/
def ab_mw (Ts : List Cond) (N : ab_M) : Prop :=
  ((my_h N = [] ∧ Cond.code (my_y N) (my_b N) (my_l N) (my_r N) ∈ Ts) ∨ (my_h N ≠ [] ∧ Cond.codeWith (my_y N) (my_b N) (my_l N) (my_r N) (my_h N) ∈ Ts)) ∧ Cond.initialized (my_y N).cls ∈ Ts ∧ plainFor (my_y N) = true ∧
  ((my_y N).cls ≠ "java/lang/invoke/MethodHandle" ∧ (my_y N).cls ≠ "java/lang/invoke/VarHandle") ∧ (parseMethodDescriptor (my_y N).desc).map (fun d => d.parameters.length) = some (my_n N) ∧
  (my_s N = true → Cond.static (my_y N) ∈ Ts) ∧ (my_s N = false → Cond.instanceMethod (my_y N) ∈ Ts)
/-- the method as the tables have it -/
def ab_mf (N : ab_M) (s : State) (mk : MethodId) (methk : Method) (ck : Code) (kk : Class) : Prop :=
  s.methodNamed? (my_y N) = some mk ∧ s.vm.method? mk = some methk ∧ methk.code = some ck ∧ ck.code = my_b N ∧ ck.maxLocals = my_l N ∧ methk.sig.returnType = my_r N ∧ methk.locks = false ∧ ck.exceptionTable.toList = tableOf (my_h N) ∧ methk.sig.parameters.length = my_n N ∧
  s.vm.classes[mk.cls]? = some kk ∧ kk.name = (my_y N).cls ∧ kk.init = .initialized ∧ methk.name = (my_y N).name
theorem ab_mf_of {Ts : List Cond} {N : ab_M} {s : State} (hw : ab_mw Ts N) (hTs : ∀ w ∈ Ts, va_Nw w s) : ∃ mk methk ck kk, ab_mf N s mk methk ck kk := by
  obtain ⟨w1, w2, w3, w4, w5, w6, w7⟩ := hw
  have key : ∃ mk methk ck, s.methodNamed? (my_y N) = some mk ∧ s.vm.method? mk = some methk ∧ methk.code = some ck ∧ ck.code = my_b N ∧ ck.maxLocals = my_l N ∧ methk.sig.returnType = my_r N ∧ methk.locks = false ∧ ck.exceptionTable.toList = tableOf (my_h N) ∧ parseMethodDescriptor (my_y N).desc = some methk.sig := by
    rcases w1 with ⟨w1, w1'⟩ | ⟨-, w1⟩
    · have hc := hTs _ w1'
      obtain ⟨mk, hn⟩ := Cond.code_named hc
      obtain ⟨methk, ck, g1, g2, g3, g4, g5, g6, g7, g8⟩ := Cond.code_spec hn hc
      refine ⟨mk, methk, ck, hn, g1, g2, g3, g4, g5, g6, ?_, g8⟩
      rw [w1]
      have : ck.exceptionTable = #[] := by simpa using g7
      rw [this]; rfl
    · obtain ⟨mk, methk, ck, hn, g1, g2, g3, g4, g5, g6, g7, g8⟩ := Cond.codeWith_spec (hTs _ w1)
      refine ⟨mk, methk, ck, hn, g1, g2, g3, g4, g6, g7, ?_, ?_⟩
      · rw [← g5, table_eq]
      · first | exact g8 | exact g8.1 | exact g8.2
  obtain ⟨mk, methk, ck, hn, g1, g2, g3, g4, g5, g6, g7, g8⟩ := key
  obtain ⟨kk, hk, hnm⟩ := className_of_methodNamed hn
  have hinit := Cond.initialized_spec (findClass_of_methodNamed hn) hk (hTs _ w2)
  rw [g8] at w5
  exact ⟨mk, methk, ck, kk, hn, g1, g2, g3, g4, g5, g6, g7, by simpa using w5, hk, hnm, hinit, (name_of_methodNamed hn g1).1⟩
/-- what the words Ts say of a place in a pool that names a method -/
def ab_pm (Ts : List Cond) (mt : List ab_M) (own : String) (x : Nat) (n : ab_N) : Prop := match n with
  | (1, j, nst, _) => ∃ N : ab_M, mt[j]? = some N ∧ ((nst = 0 ∧ Cond.methodLink own x (my_y N) ∈ Ts) ∨ (nst = 1 ∧ ∃ host : String, Cond.methodLinkNest own x (my_y N) host ∈ Ts) ∨ (nst = 2 ∧ Cond.methodLink own x (my_y N) ∈ Ts ∧ Cond.selects (my_y N).cls (my_y N) (my_y N) ∈ Ts) ∨ (nst = 3 ∧ Cond.selects (my_y N).cls (my_y N) (my_y N) ∈ Ts ∧ ∃ host : String, Cond.methodLinkNest own x (my_y N) host ∈ Ts))
  | (5, _, _, _) => Cond.methodLink own x Lib.objectInit ∈ Ts ∧ Cond.instanceMethod Lib.objectInit ∈ Ts ∧ Cond.code Lib.objectInit ⟨#[0xb1]⟩ 1 none ∈ Ts
  | _ => True
section AB6
variable {p : Program} {l : Launch} {e : Env} {R : Room} {s : State} {m : MethodId} {args : Array Value} {below : List Frame} {meth : Method} {c : Code} {T : State} {H : Heap} {locs : List Loc} {cells slots : Nat} {Q : State → Prop}
variable {B n0 z0 NC NS pc len : Nat} {od : Nat → Nat} {h h' : ab_H} {D : va_G} {dA : Nat → ClassId} {cl : List vw_C} {M N : ab_M} {i : Instr} {S S' : List Value} {ls : Array Slot} {cc : ByteArray} {Ts : List Cond} {mt : List ab_M} {pl : Nat → Option ab_N} {own : String}
theorem ab_split {S : List Value} {n : Nat} : S = ((S.take n).reverse).reverse ++ S.drop n := by
  rw [List.reverse_reverse, List.take_append_drop]
/-- a call's own instruction: what it resolves, and the invocation that it makes -/
theorem ab_cs_ok (X : Stand p l e R s m args below meth c T locs cells slots) (hx : p.tables.exec = Jvm.exec) (hb : c.code = cc) (hown : s.vm.findClass own = some m.cls) (hTs : ∀ w ∈ Ts, va_Nw w s) (hKC : ab_KC D cl s) (hw : ab_mw Ts N) (hpm : ∀ x n, pl x = some n → ab_pm Ts mt own x n)
    (hdg : decode cc pc = .ok (i, len)) (hlen : ab_len i = 0 ∨ len = ab_len i) (hR : ab_R B od D dA cl NC NS s.heap n0 z0 h T.heap locs cells slots) {j : Nat} {as r : List Value} (hs : ab_cs cl mt pl i S h = some (j, as, r)) (hN : mt[j]? = some N) :
    len = 3 ∧ ∃ (vm₁ : Vm) (mk : MethodId) (methk : Method) (ck : Code) (kk : Class), ab_mf N s mk methk ck kk ∧ s.WarmedH vm₁ ∧ Stand p l e R s m args below meth c (T.setVm vm₁) locs cells slots ∧
      ∀ target, (∀ acts, Steps p.tables e below (doInvoke e ((T.setVm vm₁).setTop (F0 m pc ls (r.map (ab_v B od)))) acts mk (as.map (ab_v B od)).toArray).1 target) → Steps p.tables e below (T.setTop (F0 m pc ls (S.map (ab_v B od)))) target := by
  subst hb
  obtain ⟨mk, methk, ck, kk, hmf⟩ := ab_mf_of hw hTs
  have hmf' := hmf
  obtain ⟨f1, f2, f3, f4, f5, f6, f7, f8, f9, f10, f11, f12, f13⟩ := hmf
  obtain ⟨w1, w2, w3, w4, w5, w6, w7⟩ := hw
  unfold ab_cs at hs
  split at hs
  · rename_i x
    have hl : len = 3 := by rcases hlen with q | q; exact absurd q (by simp [ab_len]); exact q
    subst hl
    refine ⟨rfl, ?_⟩
    split at hs
    · rename_i j' nst v hp
      split at hs
      · rename_i N' hN'
        split at hs
        · rename_i hc
          cases hs
          cases hN.symm.trans hN'
          obtain ⟨N2, hN2, hl2⟩ := hpm _ _ hp
          cases hN.symm.trans hN2
          have hst : methk.isStatic = true := Cond.static_spec f1 f2 (hTs _ (w6 hc.1))
          have hlenA : (((S.take (my_n N)).reverse).map (ab_v B od)).length = methk.sig.parameters.length := by
            rw [f9]; simp; omega
          have hstk : (F0 m pc ls (S.map (ab_v B od))).stack = (((S.take (my_n N)).reverse).map (ab_v B od)).reverse ++ (S.drop (my_n N)).map (ab_v B od) := by
            show S.map (ab_v B od) = _
            rw [← List.map_reverse, List.reverse_reverse, ← List.map_append, List.take_append_drop]
          rcases hl2 with ⟨-, q⟩ | ⟨-, host, q⟩ | ⟨-, q, -⟩ | ⟨-, -, host, q⟩
          · obtain ⟨vm₁, X₁, st⟩ := X.invokestatic hx hown (va_Nw.use rfl (hTs _ q)) f1 f2 hst f10 f12 w4 (g := F0 m pc ls (S.map (ab_v B od))) rfl hlenA hstk hdg
            exact ⟨vm₁, mk, methk, ck, kk, hmf', X₁.warmed, X₁, st⟩
          · obtain ⟨vm₁, X₁, st⟩ := X.invokestaticNest hx hown (va_Nw.use rfl (hTs _ q)) f1 f2 hst f10 f12 w4 (g := F0 m pc ls (S.map (ab_v B od))) rfl hlenA hstk hdg
            exact ⟨vm₁, mk, methk, ck, kk, hmf', X₁.warmed, X₁, st⟩
          · obtain ⟨vm₁, X₁, st⟩ := X.invokestatic hx hown (va_Nw.use rfl (hTs _ q)) f1 f2 hst f10 f12 w4 (g := F0 m pc ls (S.map (ab_v B od))) rfl hlenA hstk hdg
            exact ⟨vm₁, mk, methk, ck, kk, hmf', X₁.warmed, X₁, st⟩
          · obtain ⟨vm₁, X₁, st⟩ := X.invokestaticNest hx hown (va_Nw.use rfl (hTs _ q)) f1 f2 hst f10 f12 w4 (g := F0 m pc ls (S.map (ab_v B od))) rfl hlenA hstk hdg
            exact ⟨vm₁, mk, methk, ck, kk, hmf', X₁.warmed, X₁, st⟩
        · cases hs
      · cases hs
    · cases hs
  · rename_i x
    have hl : len = 3 := by rcases hlen with q | q; exact absurd q (by simp [ab_len]); exact q
    subst hl
    refine ⟨rfl, ?_⟩
    split at hs
    · rename_i j' nst v hp
      split at hs
      · rename_i N' hN'
        split at hs
        · rename_i q0 r0 hdr
          split at hs
          · rename_i ci fs hq
            split at hs
            · rename_i hc
              obtain ⟨hc1, hc2, hc3, hc4⟩ := hc
              cases hs
              cases hN.symm.trans hN'
              obtain ⟨N2, hN2, hl2⟩ := hpm _ _ hp
              cases hN.symm.trans hN2
              obtain ⟨mk', meth', g1, g2, g3, g4⟩ := Cond.instanceMethod_spec (hTs _ (w7 hc1))
              cases f1.symm.trans g1
              cases f2.symm.trans g2
              obtain ⟨r1, hr1, cell, q1, q2, q3, q4⟩ := hR.1 q0 _ hq
              have hcn : r1.1 = (my_y N).cls := by rw [hr1] at hc3; simpa using hc3
              have hcls : s.vm.findClass (my_y N).cls = some cell.cls := by rw [q2, ← hcn]; exact (hKC ci r1 hr1).1.2.1
              have hobj : ∀ z, cell.vm ≠ .statics z := fun z hz => by rw [q3] at hz; cases hz
              have hlenA : (((S.take (my_n N)).reverse).map (ab_v B od)).length = methk.sig.parameters.length := by
                rw [f9]; simp; omega
              have hstk : (F0 m pc ls (S.map (ab_v B od))).stack = (((S.take (my_n N)).reverse).map (ab_v B od)).reverse ++ .ref (B + q0) :: r.map (ab_v B od) := by
                show S.map (ab_v B od) = _
                rw [← List.map_reverse, List.reverse_reverse]
                have : S = S.take (my_n N) ++ (.ref q0 :: r) := by rw [← hdr, List.take_append_drop]
                conv => lhs; rw [this]
                rw [List.map_append]
                rfl
              have selOf : Cond.selects (my_y N).cls (my_y N) (my_y N) ∈ Ts → selectMethod e.platform s.vm cell.cls mk = .method mk ∧ kk.isInterface = false := fun q => by
                obtain ⟨c2, r2, m2, q1', q2', q3', q4', kP, hkP, hkPi⟩ := Cond.selects_spec (hTs _ q)
                cases hcls.symm.trans q1'
                cases (State.methodFound?_of_named f1 w4).symm.trans q2'
                cases f1.symm.trans q3'
                cases f10.symm.trans hkP
                exact ⟨by rw [Launch.admits_selectMethod X.admits]; exact q4', hkPi⟩
              rcases hl2 with ⟨h0, q⟩ | ⟨h0, host, q⟩ | ⟨-, q, qs⟩ | ⟨-, qs, host, q⟩
              · rw [h0] at hc4; rcases hc4 with z | z <;> cases z
              · rw [h0] at hc4; rcases hc4 with z | z <;> cases z
              · obtain ⟨hsel, hni⟩ := selOf qs
                obtain ⟨vm₁, X₁, st⟩ := X.invokevirtual hx hown (va_Nw.use rfl (hTs _ q)) f1 f2 g3 f10 hni w4 (a := B + q0) (cell := cell) q1 hobj hsel f2 g4 f10 hni (g := F0 m pc ls (S.map (ab_v B od))) rfl hlenA hstk hdg
                exact ⟨vm₁, mk, methk, ck, kk, hmf', X₁.warmed, X₁, st⟩
              · obtain ⟨hsel, hni⟩ := selOf qs
                obtain ⟨vm₁, X₁, st⟩ := X.invokevirtualNest hx hown (va_Nw.use rfl (hTs _ q)) f1 f2 g3 f10 hni w4 (a := B + q0) (cell := cell) q1 hobj hsel f2 g4 f10 hni (g := F0 m pc ls (S.map (ab_v B od))) rfl hlenA hstk hdg
                exact ⟨vm₁, mk, methk, ck, kk, hmf', X₁.warmed, X₁, st⟩
            · cases hs
          · cases hs
        · cases hs
      · cases hs
    · cases hs
  · rename_i x
    have hl : len = 3 := by rcases hlen with q | q; exact absurd q (by simp [ab_len]); exact q
    subst hl
    refine ⟨rfl, ?_⟩
    split at hs
    · rename_i j' nst v hp
      split at hs
      · rename_i N' hN'
        split at hs
        · rename_i q0 r0 hdr
          split at hs
          · rename_i hc
            obtain ⟨hc1, hc2, hc3, hc4, hc5⟩ := hc
            cases hs
            cases hN.symm.trans hN'
            obtain ⟨N2, hN2, hl2⟩ := hpm _ _ hp
            cases hN.symm.trans hN2
            have hcode : va_Nw (.code (my_y N) (my_b N) (my_l N) none) s := by
              rcases w1 with ⟨-, q⟩ | ⟨q, -⟩
              · rw [hc4] at q; exact hTs _ q
              · exact absurd hc5 q
            have hpl : e.platform.magicAccessors = ({} : Platform).magicAccessors := by rw [X.admits.platform]
            have hlenA : ∀ sig, parseMethodDescriptor (my_y N).desc = some sig → (((S.take (my_n N)).reverse).map (ab_v B od)).length = sig.parameters.length := fun sig hsig => by
              rw [hsig] at w5
              have : sig.parameters.length = my_n N := by simpa using w5
              rw [this]; simp; omega
            have hstk : (F0 m pc ls (S.map (ab_v B od))).stack = (((S.take (my_n N)).reverse).map (ab_v B od)).reverse ++ .ref (B + q0) :: r.map (ab_v B od) := by
              show S.map (ab_v B od) = _
              rw [← List.map_reverse, List.reverse_reverse]
              have : S = S.take (my_n N) ++ (.ref q0 :: r) := by rw [← hdr, List.take_append_drop]
              conv => lhs; rw [this]
              rw [List.map_append]
              rfl
            have hq : Cond.methodLink own x (my_y N) ∈ Ts ∨ ∃ host, Cond.methodLinkNest own x (my_y N) host ∈ Ts := by
              rcases hl2 with ⟨-, q⟩ | ⟨-, host, q⟩ | ⟨-, q, -⟩ | ⟨-, -, host, q⟩
              · exact Or.inl q
              · exact Or.inr ⟨host, q⟩
              · exact Or.inl q
              · exact Or.inr ⟨host, q⟩
            rcases hq with q | ⟨host, q⟩
            · obtain ⟨tm, meth2, cd2, k2, vm₁, e1, e2, e3, e4, e5, e6, e7, e8, hW₁, st⟩ := Steps.initColdArgs (e := e) X.here hx X.warmed hpl hown hc3 w4 (va_Nw.use (A := args) rfl (hTs _ q)) (va_Nw.use rfl (hTs _ (w7 hc1))) (va_Nw.use rfl hcode) (f := F0 m pc ls (S.map (ab_v B od))) rfl hlenA hstk hdg
              cases f1.symm.trans e1
              exact ⟨vm₁, mk, methk, ck, kk, hmf', hW₁, X.noted hW₁, st⟩
            · obtain ⟨tm, meth2, cd2, k2, vm₁, e1, e2, e3, e4, e5, e6, e7, e8, hW₁, st⟩ := Steps.initColdArgsNest (e := e) X.here hx X.warmed hpl hown hc3 w4 (va_Nw.use (A := args) rfl (hTs _ q)) (va_Nw.use rfl (hTs _ (w7 hc1))) (va_Nw.use rfl hcode) (f := F0 m pc ls (S.map (ab_v B od))) rfl hlenA hstk hdg
              cases f1.symm.trans e1
              exact ⟨vm₁, mk, methk, ck, kk, hmf', hW₁, X.noted hW₁, st⟩
          · cases hs
        · cases hs
      · cases hs
    · cases hs
  · cases hs
end AB6
end
section
/-! handlers: the search of a method's table, its catch types resolved or not -/
section AB6A
variable {e : Env} {s u : State} {g : JFrame} {a : Addr}
/-- a row of the table whose catch type is resolved by the search itself -/
theorem ab_go_cold {x : ExceptionTableEntry} {t : List ExceptionTableEntry} {c : ClassId} {vm' : Vm} {Q : Handler → Pre} {E : CtlPost} {d : Bool} {acts : List Action} (hx : covers x g.pc = true) (h0 : x.catchType ≠ 0)
    (hg : (Jvm.resolveClass g.method.cls x.catchType).Gives e.toSetting u.vm (.ok c) vm') (hr : vm'.classReady g.method.cls x.catchType c) (hsz : vm'.classes.size ≤ u.vm.classes.size) :
    wp (findHandler.go g a (x :: t)) Q E e d acts u ↔ wp (findHandler.go g a (x :: t)) Q E e d acts (u.setVm vm') := by
  obtain ⟨ha, ht⟩ := hg.op (op := VmOp.resolveClass g.method.cls x.catchType) rfl
  simp only [covers] at hx
  obtain ⟨k, hkd, hres⟩ := hr
  have q := resolveClass_memo (vm := vm') e hkd hres
  have l1 : (VmOp.resolveClass g.method.cls x.catchType).lands e u = .done (u.setVm vm') := VmOp.lands_eq ht hsz
  have l2 : (VmOp.resolveClass g.method.cls x.catchType).lands e (u.setVm vm') = .done (u.setVm vm') := VmOp.lands_eq (s := u.setVm vm') q.2 (Nat.le_refl _)
  have q1 : (VmOp.resolveClass g.method.cls x.catchType).answer e (u.setVm vm').vm = .ok c := q.1
  simp [findHandler.go, hx, h0, ha, l1, l2, q1, q.1, VmOp.dirties, VmOp.acts]
/-- what the search gives, and the tables that it leaves -/
def ab_Fd (e : Env) (u : State) (g : JFrame) (a : Addr) (hd : Handler) (vm' : Vm) : Prop :=
  ∀ (Q : Handler → Pre) (E : CtlPost) (d : Bool) (acts : List Action), wp (findHandler g a) Q E e d acts u ↔ Q hd d acts (u.setVm vm')
theorem ab_step_catch {r : List Frame} {pc : Nat} {vm' : Vm} (hfind : ab_Fd e u g a (.found pc) vm') :
    (stepThrowing e u a (.java g :: r)).Is ((u.setVm vm').setFrames (.java { g with pc := pc, stack := [.ref a] } :: r)) [] := by
  simp only [stepThrowing, searchFrame, vmDo]
  generalize hr : Sem.go _ e false [] u = res
  obtain ⟨as, rfl, ha⟩ := Sem.eq_ok_of hr (a := Handler.found pc) (s' := u.setVm vm') (acts' := []) (by simp [hfind _ _ _ _])
  exact ⟨rfl, ha⟩
theorem ab_caught {tb : Tables} {T target : State} {c : Code} {below : List Frame} {pc : Nat} {vm' : Vm} (h : At T g.method c below) (hfind : ab_Fd e ((T.setTop g).pushFrame (.throwing a)) g a (.found pc) vm')
    (hrest : Steps tb e below ((T.setVm vm').setTop { g with pc := pc, stack := [.ref a] }) target) :
    Steps tb e below ((T.setTop g).pushFrame (.throwing a)) target := by
  obtain ⟨hgo, hw⟩ := h.throwing a
  refine Steps.head hgo hw ?_
  rw [stepThread_throwing (frames_entered h.top _), (ab_step_catch (u := (T.setTop g).pushFrame (.throwing a)) hfind).1]
  obtain ⟨g₀, hg⟩ := Option.isSome_iff_exists.mp h.top
  obtain ⟨r, hr⟩ := State.topJava?_eq_some.mp hg
  have hr' : (T.setVm vm').frames = .java g₀ :: r := hr
  rw [State.setTop_of_frames _ hr'] at hrest
  have e0 : (((T.setTop g).pushFrame (.throwing a)).setVm vm').setFrames (.java { g with pc := pc, stack := [.ref a] } :: T.frames.tail) = (T.setVm vm').setFrames (.java { g with pc := pc, stack := [.ref a] } :: r) := by
    rw [hr]
    show (((T.setTop g).pushFrame (.throwing a)).setFrames _).setVm vm' = (T.setFrames _).setVm vm'
    rw [State.pushFrame, State.setFrames_setFrames, State.setTop_of_frames _ hr, State.setFrames_setFrames]
    rfl
  rw [e0]
  exact hrest
variable {D : va_G} {cl : List vw_C} {Ts : List Cond} {M : ab_M} {nc : List (Nat × Nat)} {own : String}
/-- what the words say of a catch type's entry -/
def ab_p11 (cl : List vw_C) (Ts : List Cond) (own : String) (x : Nat) (n : ab_N) : Prop := match n with
  | (11, cj, _, _) => x ≠ 0 ∧ ∃ r : vw_C, cl[cj]? = some r ∧ Cond.classLink own x r.1 ∈ Ts
  | _ => True
def ab_NCs (D : va_G) (nc : List (Nat × Nat)) (s : State) : Prop := ∀ i j, (i, j) ∈ nc → s.vm.assignable (D.1 i) (D.1 j) = false
theorem ab_srch (hpl : e.platform.magicAccessors = ({} : Platform).magicAccessors) (hown : s.vm.findClass own = some g.method.cls) (hTs : ∀ w ∈ Ts, va_Nw w s) (hKC : ab_KC D cl s) (hNC : ab_NCs D nc s) (hp11 : ∀ x n, my_p M x = some n → ab_p11 cl Ts own x n) {ce hp : Nat} {cell : Cell} (hcls : cell.cls = D.1 ce) (hobj : ∀ k, cell.vm ≠ .statics k) (hce : ∃ r, cl[ce]? = some r) :
    ∀ (hs : List (Nat × Nat × Nat × Nat)) (u : State), s.WarmedH u.vm → u.heap[a]? = some cell → ab_hd M nc g.pc ce hs = some hp → ∃ vm' : Vm, s.WarmedH vm' ∧ ∀ (Q : Handler → Pre) (E : CtlPost) (d : Bool) (acts : List Action), wp (findHandler.go g a (tableOf hs)) Q E e d acts u ↔ Q (.found hp) d acts (u.setVm vm') := by
  intro hs
  induction hs with
  | nil => intro u _ _ h; simp [ab_hd] at h
  | cons q r ih =>
    intro u hW hcell hh
    have et : tableOf (q :: r) = (⟨q.1, q.2.1, q.2.2.1, q.2.2.2⟩ : ExceptionTableEntry) :: tableOf r := rfl
    rw [et]
    unfold ab_hd at hh
    split at hh
    · rename_i hcov
      have hcv : covers (⟨q.1, q.2.1, q.2.2.1, q.2.2.2⟩ : ExceptionTableEntry) g.pc = true := by simp [covers, hcov.1, hcov.2]
      split at hh
      · rename_i cj _ _ hpx
        obtain ⟨hx0, r1, hr1, hl1⟩ := hp11 _ _ hpx
        obtain ⟨c, hfc, hcl⟩ := Cond.classLink_spec (args := #[]) hown (hTs _ hl1) e.platform hpl
        obtain ⟨hg1, hwarm, hready⟩ := State.classEntry (e := e) hW hcl
        generalize u.vm.noted g.method.cls q.2.2.2 (.cls c) = vm₁ at hg1 hwarm hready
        have hsz : vm₁.classes.size ≤ u.vm.classes.size := by
          have e1 := hwarm.alike.2.1
          have e2 := hW.alike.2.1
          omega
        obtain ⟨hKn, -⟩ := hKC cj r1 hr1
        have hcj : c = D.1 cj := Option.some.inj (hfc.symm.trans hKn.2.1)
        obtain ⟨rc, hrc⟩ := hce
        obtain ⟨hKc, -⟩ := hKC ce rc hrc
        obtain ⟨kc, hkc, -⟩ := hKc.2.2
        obtain ⟨kj, hkj, -⟩ := hKn.2.2
        obtain ⟨kc', hkc', -⟩ := hwarm.alike.2.2 _ _ hkc
        obtain ⟨kj', hkj', -⟩ := hwarm.alike.2.2 _ _ hkj
        have hasg : (u.setVm vm₁).vm.assignable cell.cls c = s.vm.assignable (D.1 ce) (D.1 cj) := by
          show vm₁.assignable cell.cls c = _
          rw [hwarm.alike.assignable, hcls, hcj]
        have one : ∀ (Q : Handler → Pre) (E : CtlPost) (d : Bool) (acts : List Action), wp (findHandler.go g a ((⟨q.1, q.2.1, q.2.2.1, q.2.2.2⟩ : ExceptionTableEntry) :: tableOf r)) Q E e d acts u ↔ if s.vm.assignable (D.1 ce) (D.1 cj) = true then Q (.found q.2.2.1) d acts (u.setVm vm₁) else wp (findHandler.go g a (tableOf r)) Q E e d acts (u.setVm vm₁) := by
          intro Q E d acts
          rw [ab_go_cold hcv hx0 hg1 hready hsz, W.findHandler_go_class (s := u.setVm vm₁) (c := c) (cell := cell) hcv hx0 hready hcell hobj ⟨kc', by rw [hcls]; exact hkc'⟩ ⟨kj', by rw [hcj]; exact hkj'⟩, hasg]
        split at hh
        · rename_i hcc
          subst hcc
          cases hh
          refine ⟨vm₁, hwarm, fun Q E d acts => ?_⟩
          rw [one, if_pos (va_assign hKc.2)]
        · split at hh
          · rename_i hin
            obtain ⟨vm2, hW2, h2⟩ := ih (u.setVm vm₁) hwarm hcell hh
            refine ⟨vm2, hW2, fun Q E d acts => ?_⟩
            rw [one, if_neg (by rw [hNC _ _ hin]; decide), h2]
            rfl
          · cases hh
      · cases hh
    · rename_i hcov
      obtain ⟨vm2, hW2, h2⟩ := ih u hW hcell hh
      refine ⟨vm2, hW2, fun Q E d acts => ?_⟩
      rw [W.findHandler_go_skip (by
        simp only [covers]
        rw [Bool.eq_false_iff]
        intro z
        apply hcov
        simpa using z), h2]
end AB6A
end
section
/-! throws of one's own: throw new E("text") -/
/-- a static field that holds a reference or null, in a cell below B -/
def ab_LS (B : Nat) (O f d : String) (s : State) (H : Heap) : Prop := ∃ (c : ClassId) (k : Class) (i : Nat) (fd : Field) (a : Nat) (cell : Cell) (v : Value), s.vm.findClass O = some c ∧ s.fieldFound? O f d = some (c, k, i, fd) ∧ fd.isStatic = true ∧ k.statics = some a ∧ H[a]? = some cell ∧ cell.vm.isStatics = true ∧ cell.cls = c ∧ fd.slot < cell.slots.size ∧ k.staticTypes[fd.slot]? = some fd.type ∧ a < B ∧ cell.slots[fd.slot]? = some v ∧ (v = .null ∨ ∃ x, v = .ref x)
theorem ab_LS.kept {B : Nat} {O f d : String} {s U : State} {H H1 : Heap} (h : ab_LS B O f d s H) (hvm : s.vm.Alike U.vm) (hk : ∀ q, q < H.size → ¬ B ≤ q → H1[q]? = H[q]?) : ab_LS B O f d U H1 := by
  obtain ⟨c, k, i, fd, a, cell, v, h1, h2, h3, h4, h5, h6, h7, h8, h9, h10, h11⟩ := h
  obtain ⟨k', hi', he⟩ := State.fieldFound?_setVm hvm h2
  exact ⟨c, k', i, fd, a, cell, v, by rw [hvm.findClass]; exact h1, hi', h3, by rw [he]; exact h4, (hk a (Array.getElem?_eq_some_iff.mp h5).1 (by omega)).trans h5, h6, h7, h8, by rw [he]; exact h9, h10, h11⟩
theorem ab_LS.lays {B : Nat} {O f d : String} {s : State} (h : ab_LS B O f d s s.heap) (A : Array Value) : (Cond.laysStatic O f d).before A s = true := by
  obtain ⟨c, k, i, fd, a, cell, v, h1, h2, h3, h4, h5, h6, h7, h8, h9, h10, h11, h12⟩ := h
  simp [Cond.before, Cond.holds, Cond.value, h1, h2, h3, h4, h5, h6, h7, h8, h9]
theorem ab_LS.isRef {B : Nat} {O f d : String} {s : State} (h : ab_LS B O f d s s.heap) (A : Array Value) : (Cond.isRef (.static O f d)).before A s = true := by
  obtain ⟨c, k, i, fd, a, cell, v, h1, h2, h3, h4, h5, h6, h7, h8, h9, h10, h11, h12⟩ := h
  have he : (Term.static O f d).eval A s none [] s = some v := by simp [Term.eval, State.fieldNamed?, h2, h3, h4, h5, h6, h11]
  simp only [Cond.before, Cond.holds, Cond.value, he]
  rcases h12 with e | ⟨x, e⟩ <;> simp [e]
theorem ab_LS.of {B : Nat} {O f d : String} {s : State} {A : Array Value} (h1 : (Cond.laysStatic O f d).before A s = true) (h2 : (Cond.isRef (.static O f d)).before A s = true) (hB : s.heap.size ≤ B) : ab_LS B O f d s s.heap := by
  obtain ⟨c, k, i, fd, a, cell, hc, hf, hst, hsta, hcell, hiss, hcls, hlt, hty⟩ := Cond.laysStatic_spec h1
  obtain ⟨v, hv, hr⟩ := Cond.isRef_spec h2
  have he : (Term.static O f d).eval A s none [] s = cell.slots[fd.slot]? := by simp [Term.eval, State.fieldNamed?, hf, hst, hsta, hcell, hiss]
  refine ⟨c, k, i, fd, a, cell, v, hc, hf, hst, hsta, hcell, hiss, hcls, hlt, hty, Nat.lt_of_lt_of_le (Array.getElem?_eq_some_iff.mp hcell).1 hB, he.symm.trans hv, ?_⟩
  cases v <;> first | (exact Or.inl rfl) | (exact Or.inr ⟨_, rfl⟩) | (simp [Value.isRef] at hr; done)
theorem ab_sb {T u : State} {fs : List Frame} {L : List Loc} {k n : Nat} (h : (T.setFrames fs).sameButNew u L k n) : T.sameButNew u L k n := by
  obtain ⟨h1, h2, h3, h4, h5, h6⟩ := h
  refine ⟨?_, h2, h3, h4, h5, h6⟩
  rw [State.setFrames_setFrames] at h1
  exact h1
/-- nothing that was there has changed -/
theorem ab_sb_heap {T u : State} {k n : Nat} (h : T.sameButNew u [] k n) {q : Nat} (hq : q < T.heap.size) : u.heap[q]? = T.heap[q]? := by
  obtain ⟨h1, h2, h3, h4, h5, h6⟩ := h
  obtain ⟨c', g1, g2, g3, g4⟩ := h6 q T.heap[q] (Array.getElem?_eq_getElem hq)
  rw [g1, Array.getElem?_eq_getElem hq]
  congr 1
  rw [g2]
  have e : c'.slots = T.heap[q].slots := by
    apply Array.ext_getElem?
    intro i
    exact g4 i (by simp)
  rw [e]
end
section
/-! more calls: a method of a class above the receiver's, on an old receiver, of the superclass by name -/
def ab_p5 (cl : List vw_C) (Ts : List Cond) (mt : List ab_M) (own : String) (x : Nat) (n : ab_N) : Prop := match n with
  | (20, j, cr, _) => ∃ (N : ab_M) (r : vw_C) (y y' : MethodName) (bs : ByteArray) (ml : Nat) (rt : Option FieldType), mt[j]? = some N ∧ cl[cr]? = some r ∧ Cond.methodLink own x y ∈ Ts ∧ Cond.instanceMethod y ∈ Ts ∧ Cond.code y bs ml rt ∈ Ts ∧ (parseMethodDescriptor y.desc).map (fun d => d.parameters.length) = some (my_n N) ∧ (y.cls ≠ "java/lang/invoke/MethodHandle" ∧ y.cls ≠ "java/lang/invoke/VarHandle") ∧ (Cond.selects r.1 y (my_y N) ∈ Ts ∨ (y = my_y N ∧ Cond.privateMethod y ∈ Ts)) ∧ y'.cls = y.cls ∧ Cond.selects r.1 y' y' ∈ Ts ∧ Cond.instanceMethod y' ∈ Ts
  | (21, j, _, _) => ∃ N : ab_M, mt[j]? = some N ∧ Cond.methodLink own x (my_y N) ∈ Ts ∧ Cond.sameMethod (my_y N).cls (my_y N).cls (my_y N).name (my_y N).desc ∈ Ts ∧ Cond.superclass own (my_y N).cls ∈ Ts
  | _ => True
section AB9
variable {p : Program} {l : Launch} {e : Env} {R : Room} {s : State} {m : MethodId} {args : Array Value} {below : List Frame} {meth : Method} {c : Code} {T : State} {H : Heap} {locs : List Loc} {cells slots : Nat} {Q : State → Prop}
variable {B n0 z0 NC NS pc len : Nat} {od : Nat → Nat} {h h' : ab_H} {D : va_G} {dA : Nat → ClassId} {cl : List vw_C} {M N : ab_M} {i : Instr} {S S' : List Value} {ls : Array Slot} {cc : ByteArray} {Ts : List Cond} {mt : List ab_M} {pl : Nat → Option ab_N} {own : String} {oo : Nat → Option (Nat × List Value)}
theorem ab_stk {B : Nat} {od : Nat → Nat} {S r : List Value} {n : Nat} {v : Value} (hdr : S.drop n = v :: r) : S.map (ab_v B od) = (((S.take n).reverse).map (ab_v B od)).reverse ++ ab_v B od v :: r.map (ab_v B od) := by
  rw [← List.map_reverse, List.reverse_reverse]
  have z : S = S.take n ++ (v :: r) := by rw [← hdr, List.take_append_drop]
  conv => lhs; rw [z]
  rw [List.map_append]
  rfl
set_option maxHeartbeats 4000000 in
theorem ab_cs5_ok (X : Stand p l e R s m args below meth c T locs cells slots) (hx : p.tables.exec = Jvm.exec) (hb : c.code = cc) (hown : s.vm.findClass own = some m.cls) (hTs : ∀ w ∈ Ts, va_Nw w s) (hKC : ab_KC D cl s) (hOO : ab_OO B od cl oo s s.heap) (hw : ab_mw Ts N) (hpm : ∀ x n, pl x = some n → ab_pm Ts mt own x n) (hp5 : ∀ x n, pl x = some n → ab_p5 cl Ts mt own x n)
    (hdg : decode cc pc = .ok (i, len)) (hlen : ab_len i = 0 ∨ len = ab_len i) (hR : ab_R B od D dA cl NC NS s.heap n0 z0 h T.heap locs cells slots) {j : Nat} {as r : List Value} (hs : ab_cs5 cl oo mt pl i S h = some (j, as, r)) (hN : mt[j]? = some N) :
    len = 3 ∧ ∃ (vm₁ : Vm) (mk : MethodId) (methk : Method) (ck : Code) (kk : Class), ab_mf N s mk methk ck kk ∧ s.WarmedH vm₁ ∧ Stand p l e R s m args below meth c (T.setVm vm₁) locs cells slots ∧
      ∀ target, (∀ acts, Steps p.tables e below (doInvoke e ((T.setVm vm₁).setTop (F0 m pc ls (r.map (ab_v B od)))) acts mk (as.map (ab_v B od)).toArray).1 target) → Steps p.tables e below (T.setTop (F0 m pc ls (S.map (ab_v B od)))) target := by
  subst hb
  obtain ⟨mk, methk, ck, kk, hmf⟩ := ab_mf_of hw hTs
  have hmf' := hmf
  obtain ⟨f1, f2, f3, f4, f5, f6, f7, f8, f9, f10, f11, f12, f13⟩ := hmf
  obtain ⟨w1, w2, w3, w4, w5, w6, w7⟩ := hw
  have selOf : ∀ {C : String} {cell : Cell}, s.vm.findClass C = some cell.cls → Cond.selects C (my_y N) (my_y N) ∈ Ts → selectMethod e.platform s.vm cell.cls mk = .method mk ∧ kk.isInterface = false := fun {C cell} hcls q => by
    obtain ⟨c2, r2, m2, q1', q2', q3', q4', kP, hkP, hkPi⟩ := Cond.selects_spec (hTs _ q)
    cases hcls.symm.trans q1'
    cases (State.methodFound?_of_named f1 w4).symm.trans q2'
    cases f1.symm.trans q3'
    cases f10.symm.trans hkP
    exact ⟨by rw [Launch.admits_selectMethod X.admits]; exact q4', hkPi⟩
  unfold ab_cs5 at hs
  split at hs
  · rename_i x
    have hl : len = 3 := by rcases hlen with q | q; exact absurd q (by simp [ab_len]); exact q
    subst hl
    refine ⟨rfl, ?_⟩
    split at hs
    · rename_i j' cr v hp
      split at hs
      · rename_i N' hN'
        split at hs
        · rename_i q0 r0 hdr
          split at hs
          · rename_i ci fs hq
            split at hs
            · rename_i hc
              obtain ⟨hc1, hc2, rfl⟩ := hc
              cases hs
              cases hN.symm.trans hN'
              obtain ⟨N2, r2, y, y', bs, ml, rt, hN2, hr2, hl2, hiy, hcy, hpy, wy, hsel2, hy', hs', hi'⟩ := hp5 _ _ hp
              cases hN.symm.trans hN2
              obtain ⟨mk', meth', g1, g2, g3, g4⟩ := Cond.instanceMethod_spec (hTs _ (w7 hc1))
              cases f1.symm.trans g1
              cases f2.symm.trans g2
              obtain ⟨r1, hr1, cell, q1, q2, q3, q4⟩ := hR.1 q0 _ hq
              have er : r1 = r2 := Option.some.inj (hr1.symm.trans hr2)
              subst er
              have hcls : s.vm.findClass r1.1 = some cell.cls := by rw [q2]; exact (hKC ci r1 hr1).1.2.1
              have hobj : ∀ z, cell.vm ≠ .statics z := fun z hz => by rw [q3] at hz; cases hz
              obtain ⟨rk, methR, u1, u2, u3, -⟩ := Cond.instanceMethod_spec (hTs _ hiy)
              obtain ⟨methR', cR, v1, -, -, -, -, -, -, v8⟩ := Cond.code_spec u1 (hTs _ hcy)
              cases u2.symm.trans v1
              obtain ⟨kr, hkr, -⟩ := className_of_methodNamed u1
              have hlenA : (((S.take (my_n N)).reverse).map (ab_v B od)).length = methR.sig.parameters.length := by
                rw [v8] at hpy
                have hpy' : methR.sig.parameters.length = my_n N := by simpa using hpy
                rw [hpy']; simp; omega
              have hniR : kr.isInterface = false := by
                obtain ⟨mq, methq, gq1, gq2, -, -⟩ := Cond.instanceMethod_spec (hTs _ hi')
                obtain ⟨c2, r2, m2, q1', q2', q3', q4', kP, hkP, hkPi⟩ := Cond.selects_spec (hTs _ hs')
                cases gq1.symm.trans q3'
                have e2 : mq.cls = rk.cls := by
                  have z1 := findClass_of_methodNamed gq1
                  have z2 := findClass_of_methodNamed u1
                  rw [hy'] at z1
                  exact Option.some.inj (z1.symm.trans z2)
                rw [e2] at hkP
                cases hkr.symm.trans hkP
                exact hkPi
              have hboth : selectMethod e.platform s.vm cell.cls rk = .method mk ∧ kk.isInterface = false := by
                rcases hsel2 with hsel2 | ⟨ey, hpv⟩
                · obtain ⟨c2, r2, m2, q1', q2', q3', q4', kP, hkP, hkPi⟩ := Cond.selects_spec (hTs _ hsel2)
                  cases hcls.symm.trans q1'
                  cases (State.methodFound?_of_named u1 wy).symm.trans q2'
                  cases f1.symm.trans q3'
                  cases f10.symm.trans hkP
                  exact ⟨by rw [Launch.admits_selectMethod X.admits]; exact q4', hkPi⟩
                · subst ey
                  cases f1.symm.trans u1
                  cases f10.symm.trans hkr
                  refine ⟨?_, hniR⟩
                  rw [Launch.admits_selectMethod X.admits]
                  exact selectMethod_private f2 (Cond.privateMethod_at (va_Nw.use (A := args) rfl (hTs _ hpv)) mk methk f1 f2)
              obtain ⟨hsel, hni⟩ := hboth
              obtain ⟨vm₁, X₁, st⟩ := X.invokevirtual hx hown (va_Nw.use rfl (hTs _ hl2)) u1 u2 u3 hkr hniR wy (a := B + q0) (cell := cell) q1 hobj hsel f2 g4 f10 hni (g := F0 m pc ls (S.map (ab_v B od))) rfl hlenA (ab_stk hdr) hdg
              exact ⟨vm₁, mk, methk, ck, kk, hmf', X₁.warmed, X₁, st⟩
            · cases hs
          · cases hs
        · cases hs
      · cases hs
    · rename_i j' nst v hp
      split at hs
      · rename_i N' hN'
        split at hs
        · rename_i w0 r0 hdr
          split at hs
          · rename_i ci fs hq
            split at hs
            · rename_i hc
              obtain ⟨hc1, hc2, hc3, hc4⟩ := hc
              cases hs
              cases hN.symm.trans hN'
              obtain ⟨N2, hN2, hl2⟩ := hpm _ _ hp
              cases hN.symm.trans hN2
              obtain ⟨mk', meth', g1, g2, g3, g4⟩ := Cond.instanceMethod_spec (hTs _ (w7 hc1))
              cases f1.symm.trans g1
              cases f2.symm.trans g2
              obtain ⟨r1, hr1, hO, -⟩ := hOO _ _ _ hq
              obtain ⟨cell, o1, o2, o3, -⟩ := hO.kept hR.2.2.1.2.1
              have hcn : r1.1 = (my_y N).cls := by rw [hr1] at hc3; simpa using hc3
              have hcls : s.vm.findClass (my_y N).cls = some cell.cls := by rw [← hcn]; exact o3
              have hobj : ∀ z, cell.vm ≠ .statics z := fun z hz => by rw [hz] at o2; cases o2
              have hlenA : (((S.take (my_n N)).reverse).map (ab_v B od)).length = methk.sig.parameters.length := by
                rw [f9]; simp; omega
              rcases hl2 with ⟨h0, q⟩ | ⟨h0, host, q⟩ | ⟨-, q, qs⟩ | ⟨h0, qs, host, q⟩
              · rw [h0] at hc4; cases hc4
              · rw [h0] at hc4; cases hc4
              · obtain ⟨hsel, hni⟩ := selOf hcls qs
                obtain ⟨vm₁, X₁, st⟩ := X.invokevirtual hx hown (va_Nw.use rfl (hTs _ q)) f1 f2 g3 f10 hni w4 (a := od w0.toNat) (cell := cell) o1 hobj hsel f2 g4 f10 hni (g := F0 m pc ls (S.map (ab_v B od))) rfl hlenA (ab_stk hdr) hdg
                exact ⟨vm₁, mk, methk, ck, kk, hmf', X₁.warmed, X₁, st⟩
              · rw [h0] at hc4; cases hc4
            · cases hs
          · cases hs
        · cases hs
      · cases hs
    · cases hs
  · rename_i x
    have hl : len = 3 := by rcases hlen with q | q; exact absurd q (by simp [ab_len]); exact q
    subst hl
    refine ⟨rfl, ?_⟩
    split at hs
    · rename_i j' cr v hp
      split at hs
      · rename_i N' hN'
        split at hs
        · rename_i q0 r0 hdr
          split at hs
          · rename_i ci fs hq
            split at hs
            · rename_i hc
              obtain ⟨hc1, hc2, hc3⟩ := hc
              cases hs
              cases hN.symm.trans hN'
              obtain ⟨N2, hN2, hl2, hsame, hsup⟩ := hp5 _ _ hp
              cases hN.symm.trans hN2
              obtain ⟨mk', meth', g1, g2, g3, g4⟩ := Cond.instanceMethod_spec (hTs _ (w7 hc1))
              cases f1.symm.trans g1
              cases f2.symm.trans g2
              obtain ⟨r1, hr1, cell, q1, q2, q3, q4⟩ := hR.1 q0 _ hq
              obtain ⟨kB, hkB, -⟩ := Vm.findClass_spec (hKC ci r1 hr1).1.2.1
              obtain ⟨ps, dk, kp, hps, hdk, hkp, hsuper, -, -, hnid⟩ := Cond.superclass_spec hown (va_Nw.use (A := args) rfl (hTs _ hsup))
              have hpmk : ps = mk.cls := Option.some.inj (hps.symm.trans (findClass_of_methodNamed f1))
              have hsub : s.vm.isSubclass ps mk.cls = true := by rw [hpmk]; simp [Vm.isSubclass, Vm.isSubclassAux]
              have hlenA : (((S.take (my_n N)).reverse).map (ab_v B od)).length = methk.sig.parameters.length := by
                rw [f9]; simp; omega
              obtain ⟨vm₁, X₁, st⟩ := X.invokespecialUp hx hown (va_Nw.use rfl (hTs _ hl2)) (va_Nw.use rfl (hTs _ hsame)) f1 f2 g3 g4 hc3 hdk hnid hps hsuper hsub (a := B + q0) (cell := cell) q1 (fun z hz => by rw [q3] at hz; cases hz) (by rw [q2]; exact hkB) (g := F0 m pc ls (S.map (ab_v B od))) rfl (argsL := ((S.take (my_n N)).reverse).map (ab_v B od)) (rest := r.map (ab_v B od)) hlenA (ab_stk hdr) hdg
              exact ⟨vm₁, mk, methk, ck, kk, hmf', X₁.warmed, X₁, fun target hh => st target (hh [])⟩
            · cases hs
          · cases hs
        · cases hs
      · cases hs
    · cases hs
  · cases hs
theorem ab_call_ok (X : Stand p l e R s m args below meth c T locs cells slots) (hx : p.tables.exec = Jvm.exec) (hb : c.code = cc) (hown : s.vm.findClass own = some m.cls) (hTs : ∀ w ∈ Ts, va_Nw w s) (hKC : ab_KC D cl s) (hOO : ab_OO B od cl oo s s.heap) (hw : ab_mw Ts N) (hpm : ∀ x n, pl x = some n → ab_pm Ts mt own x n) (hp5 : ∀ x n, pl x = some n → ab_p5 cl Ts mt own x n)
    (hdg : decode cc pc = .ok (i, len)) (hlen : ab_len i = 0 ∨ len = ab_len i) (hR : ab_R B od D dA cl NC NS s.heap n0 z0 h T.heap locs cells slots) {j : Nat} {as r : List Value} (hs : ab_call cl oo mt pl i S h = some (j, as, r)) (hN : mt[j]? = some N) :
    len = 3 ∧ ∃ (vm₁ : Vm) (mk : MethodId) (methk : Method) (ck : Code) (kk : Class), ab_mf N s mk methk ck kk ∧ s.WarmedH vm₁ ∧ Stand p l e R s m args below meth c (T.setVm vm₁) locs cells slots ∧
      ∀ target, (∀ acts, Steps p.tables e below (doInvoke e ((T.setVm vm₁).setTop (F0 m pc ls (r.map (ab_v B od)))) acts mk (as.map (ab_v B od)).toArray).1 target) → Steps p.tables e below (T.setTop (F0 m pc ls (S.map (ab_v B od)))) target := by
  unfold ab_call at hs
  split at hs
  · rename_i z hz
    cases hs
    exact ab_cs_ok X hx hb hown hTs hKC hw hpm hdg hlen hR hz hN
  · exact ab_cs5_ok X hx hb hown hTs hKC hOO hw hpm hp5 hdg hlen hR hs hN
end AB9
end
section
/-- what holds of a state: the words, the classes, the arrays' classes, the constants -/
def ab_F (D : va_G) (dA : Nat → ClassId) (cl : List vw_C) (aty : List FieldType) (od : Nat → Nat) (Ts : List Cond) (nc : List (Nat × Nat)) (mt : List ab_M) (s : State) : Prop :=
  (∀ w ∈ Ts, va_Nw w s) ∧ ab_KC D cl s ∧ ab_KA dA aty s ∧ ab_NCs D nc s ∧ (∀ (t : Nat) (C : String), aty[t]? = some (.object C) → va_AO C s) ∧ ∀ M ∈ mt, ∀ x a b w, my_p M x = some (7, a, b, .float w) → ∃ tx : String, vk_R (my_y M).cls x tx (od w.toNat) s
def ab_good (w : Cond) : Prop := w.onTables = true ∧ (w.keepsFace = true ∨ ∃ (a : String) (b : Nat) (c d e f : String), w = .fieldLinkNest a b c d e f)
theorem ab_F.warm {D : va_G} {dA : Nat → ClassId} {cl : List vw_C} {aty : List FieldType} {od : Nat → Nat} {Ts : List Cond} {nc : List (Nat × Nat)} {mt : List ab_M} {s U : State} (hg : ∀ w ∈ Ts, ab_good w) (hu : ∀ (ci : Nat) (r : vw_C), cl[ci]? = some r → ∀ w ∈ u_ws r.1 r.2.1 r.2.2, w ∈ Ts) (hW : s.WarmedH U.vm) (h : ab_F D dA cl aty od Ts nc mt s) : ab_F D dA cl aty od Ts nc mt U := by
  obtain ⟨h1, h2, h3, h5, h6, h4⟩ := h
  have g1 : ∀ w ∈ Ts, ∀ A, w.before A U = true := fun w hw A => by
    obtain ⟨k1, k2⟩ := hg w hw
    rcases k2 with k2 | ⟨a, b, c, d, e, f, rfl⟩
    · exact va_tabs k1 (rfl : (s.setVm U.vm).vm = U.vm) (Cond.before_shiftedFace (args := #[]) (State.Shifted.of_warmed hW) w k2 (h1 w hw))
    · exact va_tabs k1 (rfl : (s.setVm U.vm).vm = U.vm) (Cond.fieldLinkNest_warmed (args := #[]) hW (h1 _ hw))
  refine ⟨fun w hw => g1 w hw #[], fun ci r hr => ⟨u_Kn_moved hW.alike (h2 ci r hr).1, fun A w hw => g1 w (hu ci r hr w hw) A⟩, fun t ty ht => ⟨arrOfT_moved hW.alike (h3 t ty ht).1, (h3 t ty ht).2.1.moved hW.alike, fun hp => word_at (args := #[]) hW (Or.inr ⟨ty, rfl⟩) ((h3 t ty ht).2.2 hp)⟩, fun i j hij => by rw [hW.alike.assignable]; exact h5 i j hij, fun t C ht => (h6 t C ht).moved hW.alike, fun M hM x a b w hp => ?_⟩
  obtain ⟨tx, q⟩ := h4 M hM x a b w hp
  exact ⟨tx, q.warm hW⟩
theorem ab_OO.kept {B : Nat} {od : Nat → Nat} {cl : List vw_C} {oo : Nat → Option (Nat × List Value)} {s U : State} {H H1 : Heap} (h : ab_OO B od cl oo s H) (hvm : s.vm.Alike U.vm) (hk : ∀ q, q < H.size → ¬ B ≤ q → H1[q]? = H[q]?) : ab_OO B od cl oo U H1 := by
  intro w ci fs hw
  obtain ⟨r, g1, g2, g3⟩ := h w ci fs hw
  exact ⟨r, g1, (g2.moved hvm).kept hk, fun b v hb => ⟨(g3 b v hb).1, ((g3 b v hb).2.moved hvm).kept hk⟩⟩
theorem ab_SZ.kept {B : Nat} {od : Nat → Nat} {Ts : List Cond} {own : String} {pl : Nat → Option ab_N} {s U : State} {H H1 : Heap} (h : ab_SZ B od Ts own pl s H) (hvm : s.vm.Alike U.vm) (hk : ∀ q, q < H.size → ¬ B ≤ q → H1[q]? = H[q]?) : ab_SZ B od Ts own pl U H1 := by
  intro x a b v hx
  obtain ⟨C, n, d, g1, g2⟩ := h x a b v hx
  exact ⟨C, n, d, (g1.moved hvm).kept hk, g2⟩
theorem ab_OA.kept {B : Nat} {od : Nat → Nat} {oa : Nat → Option (FieldType × Nat × (Nat → Value))} {s U : State} {H H1 : Heap} (h : ab_OA B od oa s H) (hvm : s.vm.Alike U.vm) (hk : ∀ q, q < H.size → ¬ B ≤ q → H1[q]? = H[q]?) : ab_OA B od oa U H1 := by
  intro w t n f hw
  obtain ⟨g1, cell, g2, g3, g4⟩ := h w t n f hw
  exact ⟨g1, cell, (hk _ (Array.getElem?_eq_some_iff.mp g2).1 (by omega)).trans g2, State.isArrayOf_alike hvm g3, g4⟩
/-- what is fixed of the program -/
def ab_SF (cl : List vw_C) (ct : Nat → Nat → FieldType) (cd : Nat → List Value) (aty : List FieldType) (sb : List (Nat × Nat)) (Ts : List Cond) (mt : List ab_M) : Prop :=
  (∀ t ci, (t, ci) ∈ sb → ∃ (E : String) (r : vw_C), aty[t]? = some (.object E) ∧ cl[ci]? = some r ∧ (r.1 = E ∨ Cond.castable r.1 E ∈ Ts)) ∧ ab_CS cl ct cd ∧ (∀ w ∈ Ts, ab_good w) ∧ (∀ (ci : Nat) (r : vw_C), cl[ci]? = some r → ∀ w ∈ u_ws r.1 r.2.1 r.2.2, w ∈ Ts) ∧ (∀ j N, mt[j]? = some N → j ≠ 0 → ab_mw Ts N) ∧ ∀ M ∈ mt, ab_ck M ∧ ∀ x n, my_p M x = some n → ab_pe cl Ts (my_y M).cls x n ∧ ab_pm Ts mt (my_y M).cls x n ∧ ab_p11 cl Ts (my_y M).cls x n ∧ ab_p4 cl aty Ts (my_y M).cls x n ∧ ab_p5 cl Ts mt (my_y M).cls x n ∧ ab_q5 aty Ts (my_y M).cls x n
/-- what holds of an activation -/
def ab_A (D : va_G) (dA : Nat → ClassId) (cl : List vw_C) (aty : List FieldType) (oa : Nat → Option (FieldType × Nat × (Nat → Value))) (oo : Nat → Option (Nat × List Value)) (od : Nat → Nat) (Ts : List Cond) (nc : List (Nat × Nat)) (mt : List ab_M) (B NC NS : Nat) (M : ab_M) (d : Nat) (R : Room) (s : State) (m : MethodId) (meth : Method) (c : Code) (n0 z0 : Nat) : Prop :=
  c.code = my_b M ∧ c.maxLocals = my_l M ∧ meth.sig.returnType = my_r M ∧ meth.locks = false ∧ s.vm.findClass (my_y M).cls = some m.cls ∧ c.exceptionTable.toList = tableOf (my_h M) ∧ meth.name = (my_y M).name ∧ ab_F D dA cl aty od Ts nc mt s ∧ ab_OA B od oa s s.heap ∧ NC ≤ n0 + R.cells ∧ NS ≤ z0 + R.slots ∧ d + 8 ≤ R.frames ∧ 64 * d + 512 ≤ R.locals ∧ ab_LS B Bundle.tN "UNASSIGNED_STACK" Bundle.steD s s.heap ∧ ab_LS B Bundle.tN "SUPPRESSED_SENTINEL" Bundle.listD s s.heap ∧ ab_OO B od cl oo s s.heap ∧ (∀ M ∈ mt, ab_SZ B od Ts (my_y M).cls (my_p M) s s.heap) ∧ ∀ M ∈ mt, ab_MI od aty Ts (my_y M).cls (my_p M) s
theorem ab_args_map (B : Nat) (od : Nat → Nat) (as : List Value) : ∀ i, lv_args i (as.map (ab_v B od)) = ab_m B od (lv_args i as) := by
  induction as with
  | nil => intro i; rfl
  | cons v vs ih =>
    intro i
    show (i, ab_v B od v) :: lv_args (if (ab_v B od v).category = 2 then i + 2 else i + 1) (vs.map (ab_v B od)) = _
    rw [ab_v_cat, ih]
    rfl
theorem ab_sl_map (B : Nat) (od : Nat → Nat) (as : List Value) : (lg_sl (as.map (ab_v B od))).length = (lg_sl as).length := by
  induction as with
  | nil => rfl
  | cons v vs ih =>
    simp only [lg_sl, List.map_cons, List.flatMap_cons, List.length_append] at ih ⊢
    rw [ab_v_cat, ih]
    by_cases hc : v.category = 2 <;> simp [hc]
theorem ab_wt_map (B : Nat) (od : Nat → Nat) (r : List Value) : ((r.map (ab_v B od)).map fun v => v.category).sum = ab_wt r := by
  unfold ab_wt
  rw [List.map_map]
  congr 1
  apply List.map_congr_left
  intro v _
  exact ab_v_cat B od v
section AB7
variable {p : Program} {l : Launch} {e : Env} {B NC NS : Nat} {od : Nat → Nat} {D : va_G} {dA : Nat → ClassId} {cl : List vw_C} {ct : Nat → Nat → FieldType} {cd : Nat → List Value} {aty : List FieldType} {oa : Nat → Option (FieldType × Nat × (Nat → Value))} {oo : Nat → Option (Nat × List Value)} {sb : List (Nat × Nat)} {Ts : List Cond} {nc : List (Nat × Nat)} {mt : List ab_M}
/-- a throw of one's own -/
def ab_TH (p : Program) (l : Launch) (e : Env) (B NC NS : Nat) (od : Nat → Nat) (D : va_G) (dA : Nat → ClassId) (cl : List vw_C) (aty : List FieldType) (oa : Nat → Option (FieldType × Nat × (Nat → Value))) (oo : Nat → Option (Nat × List Value)) (Ts : List Cond) (nc : List (Nat × Nat)) (mt : List ab_M) : Prop :=
  ∀ (M : ab_M) (d : Nat) (R : Room) (s : State) (m : MethodId) (args : Array Value) (below : List Frame) (meth : Method) (c : Code) (H : Heap) (locs : List Loc) (cells slots n0 z0 pc ce x1 x2 x3 : Nat) (ls : Array Slot) (h : ab_H), M ∈ mt → ab_A D dA cl aty oa oo od Ts nc mt B NC NS M d R s m meth c n0 z0 → ls.size = my_l M → ab_th M pc = some (ce, x1, x2, x3) → h.length + 1 ≤ NC → ab_sz h + 6 ≤ NS → ab_R B od D dA cl NC NS s.heap n0 z0 h H locs cells slots →
    W p l e R s m args below meth c H locs cells slots (ab_Q below s B od D dA cl NC NS n0 z0 (.inr (ce, h.length)) (h ++ [.inr (ce, List.replicate 6 .null)])) (F0 m pc ls [])
def ab_TH0 (p : Program) (l : Launch) (e : Env) (B NC NS : Nat) (od : Nat → Nat) (D : va_G) (dA : Nat → ClassId) (cl : List vw_C) (aty : List FieldType) (oa : Nat → Option (FieldType × Nat × (Nat → Value))) (oo : Nat → Option (Nat × List Value)) (Ts : List Cond) (nc : List (Nat × Nat)) (mt : List ab_M) : Prop :=
  ∀ (M : ab_M) (d : Nat) (R : Room) (s : State) (m : MethodId) (args : Array Value) (below : List Frame) (meth : Method) (c : Code) (H : Heap) (locs : List Loc) (cells slots n0 z0 pc ce x1 x3 : Nat) (ls : Array Slot) (h : ab_H), M ∈ mt → ab_A D dA cl aty oa oo od Ts nc mt B NC NS M d R s m meth c n0 z0 → ls.size = my_l M → ab_th0 M pc = some (ce, x1, x3) → h.length + 1 ≤ NC → ab_sz h + 6 ≤ NS → ab_R B od D dA cl NC NS s.heap n0 z0 h H locs cells slots →
    W p l e R s m args below meth c H locs cells slots (ab_Q below s B od D dA cl NC NS n0 z0 (.inr (ce, h.length)) (h ++ [.inr (ce, List.replicate 6 .null)])) (F0 m pc ls [])
set_option maxHeartbeats 8000000 in
theorem ab_sound (hx : p.tables.exec = Jvm.exec) (hSF : ab_SF cl ct cd aty sb Ts mt) (hinj : ∀ w w', (oo w).isSome = true → (oo w').isSome = true → od w = od w' → w = w') (hTH : ab_TH p l e B NC NS od D dA cl aty oa oo Ts nc mt) (hTH0 : ab_TH0 p l e B NC NS od D dA cl aty oa oo Ts nc mt) :
    ∀ (n d mi pc : Nat) (L : ab_L) (S : List Value) (h h' : ab_H) (o : ab_O) (M : ab_M), mt[mi]? = some M → ab_run cl ct cd aty oa oo sb NC NS nc mt n d mi pc L S h = some (o, h') →
    ∀ (R : Room) (s : State) (m : MethodId) (args : Array Value) (below : List Frame) (meth : Method) (c : Code) (H : Heap) (locs : List Loc) (cells slots n0 z0 : Nat) (ls : Array Slot), ab_A D dA cl aty oa oo od Ts nc mt B NC NS M d R s m meth c n0 z0 → ab_R B od D dA cl NC NS s.heap n0 z0 h H locs cells slots → lv_has ls (my_l M) (ab_m B od L) →
    W p l e R s m args below meth c H locs cells slots (ab_Q below s B od D dA cl NC NS n0 z0 o h') (F0 m pc ls (S.map (ab_v B od))) := by
  intro n
  induction n with
  | zero =>
    intro d mi pc L S h h' o M hM hs
    simp [ab_run] at hs
  | succ n ih =>
    intro d mi pc L S h h' o M hM hs R s m args below meth c H locs cells slots n0 z0 ls hA hR hl
    have hMm := List.mem_of_getElem? hM
    obtain ⟨a1, a2, a3, a4, a5, a6, a7, a8, a9, a10, a11, a12, a13, als1, als2, aOO, aSZ, aMI⟩ := id hA
    obtain ⟨hsb, hCS, hgood, hus, hmws, hms⟩ := id hSF
    obtain ⟨hck, hpl⟩ := hms M hMm
    obtain ⟨hTs, hKC, hKA, hNCs, hAO, hST⟩ := id a8
    rw [ab_run, hM] at hs
    dsimp only at hs
    split at hs
    · cases hs
    · rename_i i len tg hfe
      obtain ⟨hdg, hlen, htg⟩ := ab_fe_ok hck hfe
      split at hs
      · rename_i pc' L' S' hs1
        exact ab_s1_ok hx a1 hdg hlen htg hs1 hl (fun ls' hl' => ih d mi pc' L' S' h h' o M hM hs R s m args below meth c H locs cells slots n0 z0 ls' hA hR hl')
      · split at hs
        · rename_i pc' S' h2 hs2
          exact ab_s2_ok hx a1 a5 hTs hKC hCS hKA a9 (fun x n hp => (hpl x n hp).1) (hST M hMm) (fun hi => by rw [a7]; simpa using hi) a10 a11 hdg hlen hs2 hR (fun H' locs' cells' slots' hR' => ih d mi pc' L S' h2 h' o M hM hs R s m args below meth c H' locs' cells' slots' n0 z0 ls hA hR' hl)
        · split at hs
          · rename_i v hs3
            cases hs
            exact ab_rt_ok hx a1 a3 a4 hdg hlen hs3 hR
          · split at hs
            · rename_i pc' S' hs4
              exact ab_sw_ok hx a1 hdg hs4 (ih d mi pc' L S' h h' o M hM hs R s m args below meth c H locs cells slots n0 z0 ls hA hR hl)
            · split at hs
              · rename_i S' hs5
                exact ab_ob_ok hx a1 a5 (hl.1.trans a2.symm) (by omega) (by omega) (fun x a b v hp => by have q := (hpl x _ hp).2.1; exact ⟨hTs _ q.1, hTs _ q.2.1, hTs _ q.2.2⟩) hdg hlen hs5 (ih d mi (pc + 3) L S' h h' o M hM hs R s m args below meth c H locs cells slots n0 z0 ls hA hR hl)
              · split at hs
                · rename_i j as r hcs
                  split at hs
                  · rename_i d' N hN
                    split at hs
                    · rename_i hc
                      obtain ⟨hc1, hc2, hc3⟩ := hc
                      intro T hT X
                      subst hT
                      obtain ⟨hl3, vm₁, mk, methk, ck, kk, hmf, hW₁, X₁, st⟩ := ab_call_ok (ls := ls) X hx a1 a5 hTs hKC aOO (hmws j N hN hc3) (fun x n hp => (hpl x n hp).2.1) (fun x n hp => (hpl x n hp).2.2.2.2.1) hdg hlen hR hcs hN
                      subst hl3
                      obtain ⟨f1, f2, f3, f4, f5, f6, f7, f8, f9, f10, f11, f12, f13⟩ := hmf
                      have hRT : ab_R B od D dA cl NC NS s.heap n0 z0 h (T.setVm vm₁).heap locs cells slots := hR
                      obtain ⟨b1, b2, b3, b4, b5, b6, b7⟩ := id hR
                      have hmk : (T.setVm vm₁).vm.method? mk = some methk := by
                        show vm₁.method? mk = some methk
                        rw [hW₁.alike.method?]; exact f2
                      have hpk : (T.setVm vm₁).plainMethod mk := State.plainMethod.of_named (s := T.setVm vm₁) (hmws j N hN hc3).2.2.1 (X₁.named f1) hmk
                      have hF' : ab_F D dA cl aty od Ts nc mt ((T.setVm vm₁).calling (F0 m pc ls (r.map (ab_v B od))) mk (as.map (ab_v B od)).toArray) := a8.warm hgood hus hW₁
                      have hA' : ab_A D dA cl aty oa oo od Ts nc mt B NC NS N d' { frames := R.frames - 1, cells := R.cells - cells, slots := R.slots - slots, locals := R.locals - 64 } ((T.setVm vm₁).calling (F0 m pc ls (r.map (ab_v B od))) mk (as.map (ab_v B od)).toArray) mk methk ck h.length (ab_sz h) := by
                        refine ⟨f4, f5, f6, f7, ?_, f8, f13, hF', ?_, ?_, ?_, ?_, ?_, als1.kept hW₁.alike b3.2.1, als2.kept hW₁.alike b3.2.1, aOO.kept hW₁.alike b3.2.1, fun M' hM' => (aSZ M' hM').kept hW₁.alike b3.2.1, fun M' hM' => (aMI M' hM').moved hW₁.alike⟩
                        · show vm₁.findClass (my_y N).cls = some mk.cls
                          rw [hW₁.alike.findClass]
                          exact findClass_of_methodNamed f1
                        · exact a9.kept hW₁.alike b3.2.1
                        · show NC ≤ h.length + (R.cells - cells); omega
                        · show NS ≤ ab_sz h + (R.slots - slots); omega
                        · show d' + 8 ≤ R.frames - 1; omega
                        · show 64 * d' + 512 ≤ R.locals - 64; omega
                      have hR0 : ab_R B od D dA cl NC NS T.heap h.length (ab_sz h) h T.heap [] 0 0 := ⟨b1, b2, va_S.rf, rfl, rfl, b6, b7⟩
                      have hl0 := lv_entry (as.map (ab_v B od)) (n := my_l N) (by rw [ab_sl_map]; exact hc2)
                      rw [ab_args_map] at hl0
                      have hsz : (F0 m pc ls (r.map (ab_v B od))).locals.size = c.maxLocals := hl.1.trans a2.symm
                      have hroom : 2 * (F0 m pc ls (r.map (ab_v B od))).monitorRoom + (((F0 m pc ls (r.map (ab_v B od))).stack).map fun v => v.category).sum + (ck.maxLocals + 11) + (R.locals - 64) ≤ R.locals := by
                        have e1 : (F0 m pc ls (r.map (ab_v B od))).monitorRoom = 0 := rfl
                        have e2 : (((F0 m pc ls (r.map (ab_v B od))).stack).map fun v => v.category).sum = ab_wt r := ab_wt_map B od r
                        rw [e1, e2, f5]
                        omega
                      have call : ∀ (o2 : ab_O) (h2 : ab_H), ab_run cl ct cd aty oa oo sb NC NS nc mt n d' j 0 (lv_args 0 as) [] h = some (o2, h2) → ∃ (T' : State) (locs' : List Loc) (cells' slots' : Nat), Stand p l e R s m args below meth c T' locs' cells' slots' ∧ ab_R B od D dA cl NC NS s.heap n0 z0 h2 T'.heap locs' cells' slots' ∧ ∀ acts, Steps p.tables e below (doInvoke e ((T.setVm vm₁).setTop (F0 m pc ls (r.map (ab_v B od)))) acts mk (as.map (ab_v B od)).toArray).1 (ab_nx B od T' (F0 m pc ls (r.map (ab_v B od))) 3 o2) := fun o2 h2 hrun =>
                        ab_into (o := o2) (h' := h2) X₁ hRT (g := F0 m pc ls (r.map (ab_v B od))) rfl hsz (by rw [a1]; exact hdg) (R' := { frames := R.frames - 1, cells := R.cells - cells, slots := R.slots - slots, locals := R.locals - 64 }) (a := (as.map (ab_v B od)).toArray) hmk f3 f7 hpk (by show R.frames - 1 + 1 ≤ R.frames; omega) hroom (by show cells + (R.cells - cells) ≤ R.cells; omega) (by show slots + (R.slots - slots) ≤ R.slots; omega)
                          (by rw [f5, lg_entry_eq]; exact ih d' j 0 (lv_args 0 as) [] h h2 o2 N hN hrun _ _ _ _ _ _ _ _ _ _ _ _ _ _ hA' hR0 hl0)
                      split at hs
                      · rename_i v h2 hrun
                        obtain ⟨T', locs', cells', slots', X', hR', st'⟩ := call _ _ hrun
                        obtain ⟨t, q1, q2⟩ := ih (d' + 1) mi (pc + 3) L (v.toList ++ r) h2 h' o M hM hs R s m args below meth c T'.heap locs' cells' slots' n0 z0 ls hA hR' hl T' rfl X'
                        refine ⟨t, st t (fun acts => (st' acts).trans ?_), q2⟩
                        cases v <;> exact q1
                      · rename_i ce q h2 hrun
                        obtain ⟨T', locs', cells', slots', X', hR', st'⟩ := call _ _ hrun
                        split at hs
                        · rename_i hnil
                          cases hs
                          have hfind : Finds e ((T'.setTop (F0 m pc ls (r.map (ab_v B od)))).pushFrame (.throwing (B + q))) (F0 m pc ls (r.map (ab_v B od))) (B + q) .none :=
                            Finds.outside (meth := meth) (code := c) X'.method' X'.code (by rw [a6, hnil]; intro y hy; cases hy)
                          have hAt : At T' (F0 m pc ls (r.map (ab_v B od))).method c below := X'.here
                          obtain ⟨g₀, hfr⟩ := X'.frames_eq
                          refine ⟨T'.setFrames (.throwing (B + q) :: below), st _ (fun acts => (st' acts).trans (Steps.thrownOut hAt (meth := meth) X'.method' a4 rfl rfl hfind ?_)), X'.here.running, State.frames_setFrames _ (State.cur_lt_of_frames hfr), (X'.ends _).1, locs', cells', slots', (X'.ends _).2, hR'⟩
                          rw [X'.tail]
                          exact Steps.refl _
                        · split at hs
                          · rename_i hix
                            split at hs
                            · rename_i hp hh
                              obtain ⟨fs, hq⟩ := ab_isx_ok hix
                              obtain ⟨rc, hrc, cell, q1, q2, q3, q4⟩ := hR'.1 q _ hq
                              have hplat : e.platform.magicAccessors = ({} : Platform).magicAccessors := by rw [X'.admits.platform]
                              obtain ⟨vm', hW', hgo⟩ := ab_srch (a := B + q) (g := F0 m pc ls (r.map (ab_v B od))) (cell := cell) hplat a5 hTs hKC hNCs (fun x n hp => (hpl x n hp).2.2.1) q2 (fun k hk => by rw [q3] at hk; cases hk) ⟨rc, hrc⟩ (my_h M) ((T'.setTop (F0 m pc ls (r.map (ab_v B od)))).pushFrame (.throwing (B + q))) X'.warmed q1 hh
                              have hfind : ab_Fd e ((T'.setTop (F0 m pc ls (r.map (ab_v B od)))).pushFrame (.throwing (B + q))) (F0 m pc ls (r.map (ab_v B od))) (B + q) (.found hp) vm' := fun Q E dd acts => by
                                rw [W.findHandler_eq (meth := meth) (code := c) X'.method' X'.code, a6]
                                exact hgo Q E dd acts
                              have X2 := X'.noted hW'
                              obtain ⟨t, z1, z2⟩ := ih (d' + 1) mi hp L [.ref q] h2 h' o M hM hs R s m args below meth c T'.heap locs' cells' slots' n0 z0 ls hA hR' hl (T'.setVm vm') rfl X2
                              exact ⟨t, st t (fun acts => (st' acts).trans (ab_caught X'.here hfind z1)), z2⟩
                            · cases hs
                          · cases hs
                      · cases hs
                    · cases hs
                  · cases hs
                · split at hs
                  · rename_i ce x1 x2 x3 hth
                    split at hs
                    · rename_i hc
                      obtain ⟨hc1, hc2, rfl⟩ := hc
                      cases hs
                      exact hTH M d R s m args below meth c H locs cells slots n0 z0 pc ce x1 x2 x3 ls h hMm hA hl.1 hth hc1 hc2 hR
                    · cases hs
                  · split at hs
                    · rename_i ce x1 x3 hth
                      split at hs
                      · rename_i hc
                        obtain ⟨hc1, hc2, rfl⟩ := hc
                        cases hs
                        exact hTH0 M d R s m args below meth c H locs cells slots n0 z0 pc ce x1 x3 ls h hMm hA hl.1 hth hc1 hc2 hR
                      · cases hs
                    · split at hs
                      · rename_i pc' S' h2 hs4
                        exact ab_s4_ok hx a1 a5 hTs hKC hKA hAO a9 hinj aOO (aSZ M hMm) hsb (fun x n hp => (hpl x n hp).1) (fun x n hp => (hpl x n hp).2.2.2.1) a10 a11 hdg hlen htg hs4 hR (fun H' locs' cells' slots' hR' => ih d mi pc' L S' h2 h' o M hM hs R s m args below meth c H' locs' cells' slots' n0 z0 ls hA hR' hl)
                      · split at hs
                        · rename_i pc' S' h2 hs5
                          exact ab_s5_ok hx a1 (a2.trans hl.1.symm) a5 hTs hKC hKA aOO (aMI M hMm) hsb (fun x n hp => (hpl x n hp).2.2.2.1) (fun x n hp => (hpl x n hp).2.2.2.2.2) (by omega) (by omega) a10 a11 hdg hlen hs5 hR (fun H' locs' cells' slots' hR' => ih d mi pc' L S' h2 h' o M hM hs R s m args below meth c H' locs' cells' slots' n0 z0 ls hA hR' hl)
                        · cases hs
end AB7
end
section
/-! throws of one's own: throw new E("text"), throw new E() -/
/-- what the words say of an exception's entries: its class (9), its constructor with a text (10) -/
def ab_isZ (w : Cond) : Prop := w = .laysStatic Bundle.tN "UNASSIGNED_STACK" Bundle.steD ∨ w = .laysStatic Bundle.tN "SUPPRESSED_SENTINEL" Bundle.listD ∨ w = .isRef (.static Bundle.tN "UNASSIGNED_STACK" Bundle.steD) ∨ w = .isRef (.static Bundle.tN "SUPPRESSED_SENTINEL" Bundle.listD)
def ab_eB (own : String) (ic : Nat) (C : String) : List Cond := [.methodLink own ic (Bundle.initS C), .instantiable C 6, .selects C Bundle.tFill0 Bundle.tFill0, .selects C Bundle.tFill Bundle.tFill, .lays C Bundle.tN "cause" "Ljava/lang/Throwable;", .lays C Bundle.tN "stackTrace" Bundle.steD, .lays C Bundle.tN "suppressedExceptions" Bundle.listD, .lays C Bundle.tN "detailMessage" "Ljava/lang/String;", .isRef (.static Bundle.tN "UNASSIGNED_STACK" Bundle.steD), .isRef (.static Bundle.tN "SUPPRESSED_SENTINEL" Bundle.listD), .fieldLink Bundle.tN 198 Bundle.tN "backtrace" "Ljava/lang/Object;", .lays Bundle.tN Bundle.tN "backtrace" "Ljava/lang/Object;", .lays C Bundle.tN "backtrace" "Ljava/lang/Object;"]
/-- the words of an exception whose constructor with a text hands it on to that of Y, by its own pool's entry ix -/
def ab_eA (own : String) (ic : Nat) (C Y : String) (ix : Nat) (rx : ByteArray) (names : List String) : List Cond := Bundle.throwableAtoms ++ (Bundle.throwableSAtoms ++ (Bundle.passSAtoms C Y ix rx ++ (Bundle.chainSAtoms Y names ++ ab_eB own ic C)))
set_option maxHeartbeats 2000000 in
theorem ab_ctorX {p : Program} {l : Launch} {e : Env} {R : Room} {s : State} {m₀ : MethodId} {args : Array Value} {below : List Frame} {meth : Method} {c : Code} {W : State} {cells slots : Nat} (X : Stand p l e R s m₀ args below meth c W [] cells slots) (hx : p.tables.exec = Jvm.exec) (htr : e.platform.stackTraces = false) {own C Y : String} {names : List String} {ic ix : Nat} {rx : ByteArray}
    (x0 : decode rx 0 = .ok (.aload_n 0, 1)) (x1 : decode rx 1 = .ok (.aload_n 1, 1)) (x2 : decode rx 2 = .ok (.invokespecial ix, 3)) (x5 : decode rx 5 = .ok (.return_, 1))
    (hown : s.vm.findClass own = some m₀.cls) (hC : Bundle.fit C = true) (hN : ∀ n ∈ Y :: names, Bundle.fit n = true) (h : ∀ w ∈ ab_eA own ic C Y ix rx names, w.before args s = true)
    {a : Addr} {cX : ClassId} {kX : Class} (hfX : s.vm.findClass C = some cX) (hkX : s.vm.classes[cX]? = some kX) (hcell : W.heap[a]? = some (freshCell cX kX)) (hnew : s.heap.size ≤ a) {msg : Value} (hmsg : msg.isRef = true)
    {g : JFrame} (hg : g.method = m₀) (hsize : g.locals.size = c.maxLocals) (hlk : g.locked = none) (hen : g.entered = []) (hst : g.stack = [msg, .ref a, .ref a])
    (d6 : decode c.code g.pc = .ok (.invokespecial ic, 3)) (d9 : decode c.code (g.pc + 3) = .ok (.athrow, 1)) (hout : ∀ x ∈ c.exceptionTable.toList, covers x (g.pc + 3) = false)
    (hRf : names.length + 4 < R.frames) (hRl : 2 * g.monitorRoom + 1 + (13 * (names.length + 2) + 42) ≤ R.locals) (hlocks : meth.locks = false) :
    ∃ U : State, Steps p.tables e below (W.setTop g) U ∧ U.status = .running ∧ Ended U below (.threw a) ∧ s.WarmedH U.vm ∧ s.sameButNew ({ U with vm := s.vm } : State) [] cells slots ∧ ∃ cE : Cell, U.heap[a]? = some cE ∧ cE.cls = cX ∧ cE.vm = .none := by
  have hpl : e.platform.magicAccessors = ({} : Platform).magicAccessors := by rw [X.admits.platform]
  have h1 : ∀ w ∈ Bundle.throwableAtoms, w.before args s = true := fun w hw => h w (List.mem_append_left _ hw)
  have h2 : ∀ w ∈ Bundle.throwableSAtoms, w.before args s = true := fun w hw => h w (List.mem_append_right _ (List.mem_append_left _ hw))
  have h3 : ∀ w ∈ Bundle.passSAtoms C Y ix rx, w.before args s = true := fun w hw => h w (List.mem_append_right _ (List.mem_append_right _ (List.mem_append_left _ hw)))
  have h4 : ∀ w ∈ Bundle.chainSAtoms Y names, w.before args s = true := fun w hw => h w (List.mem_append_right _ (List.mem_append_right _ (List.mem_append_right _ (List.mem_append_left _ hw))))
  have h5 : ∀ w, w ∈ ab_eB own ic C → w.holds args s none s [] = true := fun w hw => h w (List.mem_append_right _ (List.mem_append_right _ (List.mem_append_right _ (List.mem_append_right _ hw))))
  have h31 : (Cond.instanceMethod (Bundle.initS C)).before args s = true := h3 _ (by simp [Bundle.passSAtoms])
  have h32 : (Cond.code (Bundle.initS C) rx 2 none).before args s = true := h3 _ (by simp [Bundle.passSAtoms])
  obtain ⟨T, Z0, L, -, YT⟩ := ThrowableC.of_atoms (args := args) (by rw [X.admits.platform]) (by rw [X.admits.platform]) hpl h1
  obtain ⟨Z, M, LZ, LM, hnZ⟩ := Init0T.ofS_atoms (args := args) hpl L YT h2
  obtain ⟨P0, L0, hP0, hS0⟩ := PassC.ofS_atoms (args := args) (s := s) hpl (X := C) (Y := Y) (Bundle.fit_spec hC).1 (Bundle.fit_spec (hN Y List.mem_cons_self)).2 x0 x1 x2 x5 h3
  obtain ⟨P1, Ps, hlen, L1, hL, hP1, hk1, hk2⟩ := Bundle.chainS (args := args) hpl hnZ names Y (hN Y List.mem_cons_self) (fun n hn => hN n (List.mem_cons_of_mem _ hn)) h4
  have hsup : P0.sup = P1.m := Option.some.inj (hS0.symm.trans hP1)
  have hfound : s.vm.findClass C = some P0.m.cls := findClass_of_methodNamed hP0
  cases Option.some.inj (hfX.symm.trans hfound)
  obtain ⟨c1, kX', hc1, hk, hord, -, -, -⟩ := Cond.instantiable_spec (h5 (.instantiable C 6) (by simp [ab_eB]))
  cases Option.some.inj (hc1.symm.trans hfound)
  cases Option.some.inj (hkX.symm.trans hk)
  have hsel0 : selectMethod e.platform s.vm P0.m.cls T.fill0 = .method T.fill0 := by
    obtain ⟨c2, r2, m2, q1, q2, q3, q4, -⟩ := Cond.selects_spec (h5 (.selects C Bundle.tFill0 Bundle.tFill0) (by simp [ab_eB]))
    cases Option.some.inj (q1.symm.trans hfound)
    cases Option.some.inj (q2.symm.trans (State.methodFound?_of_named YT.fill0 (by decide)))
    cases Option.some.inj (q3.symm.trans YT.fill0)
    rw [Launch.admits_selectMethod X.admits]; exact q4
  have hselF : selectMethod e.platform s.vm P0.m.cls T.fill = .method T.fill := by
    obtain ⟨c2, r2, m2, q1, q2, q3, q4, -⟩ := Cond.selects_spec (h5 (.selects C Bundle.tFill Bundle.tFill) (by simp [ab_eB]))
    cases Option.some.inj (q1.symm.trans hfound)
    cases Option.some.inj (q2.symm.trans (State.methodFound?_of_named YT.fill (by decide)))
    cases Option.some.inj (q3.symm.trans YT.fill)
    rw [Launch.admits_selectMethod X.admits]; exact q4
  obtain ⟨cS0, hcS0, hiss⟩ := YT.statics
  obtain ⟨u0, hu0⟩ := Cond.staticRefV YT.unassigned L.unassignedStatic L.statics hcS0 hiss (h5 (.isRef (.static Bundle.tN "UNASSIGNED_STACK" Bundle.steD)) (by simp [ab_eB]))
  obtain ⟨sen, hsen⟩ := Cond.staticRefV YT.sentinel L.sentinelStatic L.statics hcS0 hiss (h5 (.isRef (.static Bundle.tN "SUPPRESSED_SENTINEL" Bundle.listD)) (by simp [ab_eB]))
  obtain ⟨ci8, i8, fB, hk8, hg8, ha8, hsB, -, hnB, htB, hffB⟩ := Cond.ownField (t := .object "java/lang/Object") YT.found L.cls (by decide +kernel) (h5 (.fieldLink Bundle.tN 198 Bundle.tN "backtrace" "Ljava/lang/Object;") (by simp [ab_eB])) (h5 (.lays Bundle.tN Bundle.tN "backtrace" "Ljava/lang/Object;") (by simp [ab_eB])) e.platform hpl
  obtain ⟨cS, hcS', heS, -, hkeep⟩ := X.same.2.2.2.2.2 T.aS cS0 hcS0
  have hcS : W.heap[T.aS]? = some cS := hcS'
  have hkS : cS.vm ≠ .unknown := by
    rw [heS]; intro hu
    rw [show cS0.vm = .unknown from hu] at hiss
    cases hiss
  have hneS : T.aS ≠ a := Nat.ne_of_lt (Nat.lt_of_lt_of_le (Array.getElem?_eq_some_iff.mp hcS0).1 hnew)
  obtain ⟨iM, hffM⟩ := YT.msg
  obtain ⟨tyC, dC, hdC, hdnC⟩ := Cond.laysAt hfound hk YT.cause (h5 (.lays C Bundle.tN "cause" "Ljava/lang/Throwable;") (by simp [ab_eB]))
  obtain ⟨tyS, dS, hdS, hdnS⟩ := Cond.laysAt hfound hk YT.stack (h5 (.lays C Bundle.tN "stackTrace" Bundle.steD) (by simp [ab_eB]))
  obtain ⟨tyP, dP, hdP, hdnP⟩ := Cond.laysAt hfound hk YT.supp (h5 (.lays C Bundle.tN "suppressedExceptions" Bundle.listD) (by simp [ab_eB]))
  obtain ⟨tyM, dM, hdM, hdnM⟩ := Cond.laysAt hfound hk hffM (h5 (.lays C Bundle.tN "detailMessage" "Ljava/lang/String;") (by simp [ab_eB]))
  obtain ⟨tyB, dB, hdB, hdnB⟩ := Cond.laysAt hfound hk hffB (h5 (.lays C Bundle.tN "backtrace" "Ljava/lang/Object;") (by simp [ab_eB]))
  have bC := Cond.laysApart hdB hdC hdnB hdnC (by rw [hnB, YT.causeName]; decide)
  have bS := Cond.laysApart hdB hdS hdnB hdnS (by rw [hnB, YT.stackName]; decide)
  have bP := Cond.laysApart hdB hdP hdnB hdnP (by rw [hnB, YT.suppName]; decide)
  have hskip : SkipFacts T e.platform s (fun u => u) u0 ((preparedCellV T.toThrowableT (freshCell P0.m.cls kX) a u0 sen).withEntry W.cur) := by
    refine ⟨{ ci198 := ci8, i198 := i8, fBack := fB }, ⟨hk8, hg8, ha8, hsB⟩, ?_, fun _ _ => rfl⟩
    have z := fresh_default (c := P0.m.cls) tyB
    rw [htB] at z
    simpa [preparedCellV, Cell.setSlot, Cell.withEntry, Array.getElem?_setIfInBounds, bC, bS, bP, bC.symm, bS.symm, bP.symm, defaultValue] using z
  obtain ⟨tm, -, -, -, vm₁, hnC, -, -, -, -, -, -, -, hW₁, st1⟩ := Steps.initColdS (tb := p.tables) (e := e) (below := below) (s := s) (U := W) X.here hx X.warmed hpl hown (t := Bundle.initS C) rfl rfl (Bundle.fit_spec hC).2 (h5 (.methodLink own ic (Bundle.initS C)) (by simp [ab_eB])) h31 (bytes := rx) (maxL := 2) h32 (f := g) hg (a := a) (msg := msg) (rest := [.ref a]) hst d6
  cases Option.some.inj (hnC.symm.trans hP0)
  obtain ⟨vm₂, X₂, st2⟩ := (X.noted hW₁).ctorMessageOffV hx (g := { g with stack := [.ref a] }) hg hsize T L Z LZ M LM (P0 :: P1 :: Ps)
    (fun P hP => by
      rcases List.mem_cons.mp hP with rfl | hP
      · exact L0
      · rcases List.mem_cons.mp hP with rfl | hP
        · exact L1
        · exact hL P hP) ⟨hsup, hk1, hk2⟩ (u0 := u0) (sen := sen) (self := a) hmsg (cell := freshCell P0.m.cls kX) (cellS := cS)
    hcell (fun _ => by simp) (by simp) rfl rfl hsel0 hselF hcS hneS hkS (by rw [hkeep _ (by simp)]; exact hu0) (by rw [hkeep _ (by simp)]; exact hsen)
    (Takes.of_laid hk hord tyC (by rw [YT.causeType]; rfl)) (Takes.of_laid hk hord tyS (by rw [YT.stackType]; exact fits_refV_array _ u0)) (Takes.of_laid hk hord tyP (by rw [YT.suppType]; exact fits_refV_object _ sen))
    (Takes.of_laid hk hord tyM (by rw [YT.msgType]; exact fits_refV_object _ ⟨msg, hmsg⟩)) YT.objLocals hskip htr [] d6
    (by simp only [List.length_cons, hlen]; omega) (by
      have e2 : (([Value.ref a] : List Value).map fun v => v.category).sum = 1 := rfl
      simp only [List.length_cons, hlen]
      show 2 * g.monitorRoom + (([Value.ref a] : List Value).map fun v => v.category).sum + _ ≤ _
      rw [e2]; omega)
  obtain ⟨hwalk, hrun, hended, hWU, hsame⟩ := X₂.athrowLeaves hx (g := { g with stack := [.ref a], pc := g.pc + 3 }) hg hlk hen hout (a := a) (rest := []) rfl d9
  have hlt : a < ((W.setVm vm₁).setVm vm₂).heap.size := (Array.getElem?_eq_some_iff.mp hcell).1
  have hU := heapAt_setCell_self (s := (W.setVm vm₁).setVm vm₂) (plainBareV T.toThrowableT (freshCell P0.m.cls kX) a u0 sen msg) hlt
  refine ⟨_, st1 _ (fun acts => ?_), hrun, hended, hWU, hsame.weaken (fun y hy hlt' => ?_) (Nat.le_refl _) (Nat.le_refl _), _, hU, rfl, rfl⟩
  · rw [doInvoke_state]
    exact st2 _ hwalk
  · exfalso
    have hb : y.base = a := by
      simp only [List.nil_append, List.mem_cons, List.not_mem_nil, or_false] at hy
      rcases hy with rfl | rfl | rfl | rfl | rfl <;> rfl
    rw [hb] at hlt'
    exact Nat.not_lt.mpr hnew hlt'
def ab_p9 (cl : List vw_C) (Ts : List Cond) (own : String) (x : Nat) (n : ab_N) : Prop := match n with
  | (9, ce, _, _) => ∃ r : vw_C, cl[ce]? = some r ∧ Cond.classLink own x r.1 ∈ Ts ∧ Cond.instantiable r.1 6 ∈ Ts ∧ Cond.initialized r.1 ∈ Ts
  | (10, ce, _, _) => ∃ (r : vw_C) (Y : String) (names : List String) (ix : Nat) (rx : ByteArray), cl[ce]? = some r ∧ r.2.2 = 0 ∧ Bundle.fit r.1 = true ∧ names.length ≤ 3 ∧ (∀ n ∈ Y :: names, Bundle.fit n = true) ∧ (decode rx 0 = .ok (.aload_n 0, 1) ∧ decode rx 1 = .ok (.aload_n 1, 1) ∧ decode rx 2 = .ok (.invokespecial ix, 3) ∧ decode rx 5 = .ok (.return_, 1)) ∧ ∀ w ∈ ab_eA own x r.1 Y ix rx names, ab_isZ w ∨ w ∈ Ts
  | (14, ce, _, _) => ∃ (r : vw_C) (names : List String), cl[ce]? = some r ∧ r.2.2 = 0 ∧ Bundle.fit r.1 = true ∧ names.length ≤ 4 ∧ (∀ n ∈ names, Bundle.fit n = true) ∧ ∀ w ∈ Bundle.ownAtoms0 own x r.1 names, ab_isZ w ∨ w ∈ Ts
  | _ => True
section AB7A
variable {p : Program} {l : Launch} {e : Env} {B NC NS : Nat} {od : Nat → Nat} {D : va_G} {dA : Nat → ClassId} {cl : List vw_C} {ct : Nat → Nat → FieldType} {cd : Nat → List Value} {aty : List FieldType} {oa : Nat → Option (FieldType × Nat × (Nat → Value))} {oo : Nat → Option (Nat × List Value)} {sb : List (Nat × Nat)} {Ts : List Cond} {nc : List (Nat × Nat)} {mt : List ab_M}
set_option maxHeartbeats 8000000 in
theorem ab_TH_ok (hx : p.tables.exec = Jvm.exec) (hnt : l.stackTraces = false) (hSF : ab_SF cl ct cd aty sb Ts mt) (h9 : ∀ M ∈ mt, ∀ x n, my_p M x = some n → ab_p9 cl Ts (my_y M).cls x n) : ab_TH p l e B NC NS od D dA cl aty oa oo Ts nc mt := by
  intro M d R s m args below meth c H locs cells slots n0 z0 pc ce x1 x2 x3 ls h hM hA hls hth hc1 hc2 hR
  obtain ⟨a1, a2, a3, a4, a5, a6, a7, a8, a9, a10, a11, a12, a13, ls1, ls2, aOO, aSZ, aMI⟩ := id hA
  obtain ⟨hsb, hCS, hgood, hus, hmws, hms⟩ := id hSF
  obtain ⟨hck, hpl⟩ := hms M hM
  unfold ab_th at hth
  split at hth
  · rename_i i0 l0 t0 l3 t3 i4 l4 t4 i6 l6 t6 l9 t9 e0 e3 e4 e6 e9
    split at hth
    · rename_i ce' _ _ _ _ w cf _ _ p0 p4 p6
      split at hth
      · rename_i hcc
        obtain ⟨hcc1, hcc2⟩ := hcc
        cases hth
        subst hcc1
        obtain ⟨d0, q0, -⟩ := ab_fe_ok hck e0
        obtain ⟨d3, q3, -⟩ := ab_fe_ok hck e3
        obtain ⟨d4, q4, -⟩ := ab_fe_ok hck e4
        obtain ⟨d6, q6, -⟩ := ab_fe_ok hck e6
        obtain ⟨d9, q9, -⟩ := ab_fe_ok hck e9
        have k0 : l0 = 3 := by rcases q0 with q | q; exact absurd q (by simp [ab_len]); exact q
        have k3 : l3 = 1 := by rcases q3 with q | q; exact absurd q (by simp [ab_len]); exact q
        have k4 : l4 = 2 := by rcases q4 with q | q; exact absurd q (by simp [ab_len]); exact q
        have k6 : l6 = 3 := by rcases q6 with q | q; exact absurd q (by simp [ab_len]); exact q
        have k9 : l9 = 1 := by rcases q9 with q | q; exact absurd q (by simp [ab_len]); exact q
        subst k0 k3 k4 k6 k9
        rw [← a1] at d0 d3 d4 d6 d9
        obtain ⟨r, hr, w1, w2, w3⟩ := h9 M hM _ _ p0
        obtain ⟨r', YY, names, ix, rx, hr', hr0, hfit, hnl, hnf, ⟨x0, x1, x2, x5⟩, hown9⟩ := h9 M hM _ _ p6
        cases hr.symm.trans hr'
        intro T hT X
        subst hT
        obtain ⟨b1, b2, b3, b4, b5, b6, b7⟩ := id hR
        have X0 := ab_rebase X (R' := { frames := R.frames, cells := R.cells - cells, slots := R.slots - slots, locals := R.locals }) (Nat.le_refl _) (Nat.le_refl _) (by show cells + (R.cells - cells) ≤ R.cells; omega) (by show slots + (R.slots - slots) ≤ R.slots; omega)
        have hF' : ab_F D dA cl aty od Ts nc mt (T.setFrames (.invoking m args :: below)) := a8.warm hgood hus X.warmed
        have ls1' : ab_LS B Bundle.tN "UNASSIGNED_STACK" Bundle.steD (T.setFrames (.invoking m args :: below)) (T.setFrames (.invoking m args :: below)).heap := ls1.kept X.warmed.alike b3.2.1
        have ls2' : ab_LS B Bundle.tN "SUPPRESSED_SENTINEL" Bundle.listD (T.setFrames (.invoking m args :: below)) (T.setFrames (.invoking m args :: below)).heap := ls2.kept X.warmed.alike b3.2.1
        obtain ⟨hTs, hKC, hKA, hNCs, hAO, hST⟩ := id hF'
        have hown : (T.setFrames (.invoking m args :: below)).vm.findClass (my_y M).cls = some m.cls := by
          show T.vm.findClass _ = _
          rw [X.warmed.alike.findClass]; exact a5
        have htr : e.platform.stackTraces = false := by rw [X.admits.platform]; exact hnt
        obtain ⟨tx, hZ⟩ := hST M hM _ _ _ _ p4
        obtain ⟨vm₁, cX, kX, hfX, hkX, -, -, X₁, st1⟩ := X0.newCold hx (n := 6) hown (va_Nw.use rfl (hTs _ w1)) (va_Nw.use rfl (hTs _ w2)) (va_Nw.use rfl (hTs _ w3)) (g := F0 m pc ls []) rfl d0 (by show 0 + 1 ≤ R.cells - cells; omega) (by show 0 + 6 ≤ R.slots - slots; omega)
        have hcell : ((T.setVm vm₁).pushCell { cls := cX, slots := kX.instanceTypes.map defaultValue, vm := .none }).heap[T.heap.size]? = some (freshCell cX kX) := State.heap_pushCell_size _ _
        generalize hT1 : (T.setVm vm₁).pushCell { cls := cX, slots := kX.instanceTypes.map defaultValue, vm := .none } = T₁ at X₁ st1 hcell
        have hat : ∀ w ∈ ab_eA (my_y M).cls x3 r.1 YY ix rx names, w.before args (T.setFrames (.invoking m args :: below)) = true := by
          intro w hw
          rcases hown9 w hw with hz | hz
          · rcases hz with rfl | rfl | rfl | rfl
            · exact ls1'.lays args
            · exact ls2'.lays args
            · exact ls1'.isRef args
            · exact ls2'.isRef args
          · exact va_Nw.use (hgood w hz).1 (hTs w hz)
        have st2 := X₁.ldcString hx hown (text := tx) (a := od w.toNat) (args := args) hZ.1 hZ.2 (g := F0 m (pc + 4) ls [.ref T.heap.size, .ref T.heap.size]) rfl d4
        obtain ⟨U, hsteps, hrun, hend, hW, hsame, cE, hcE, K1, K2⟩ := ab_ctorX X₁ hx htr x0 x1 x2 x5 hown hfit hnf hat hfX hkX hcell (Nat.le_refl _) (msg := .ref (od w.toNat)) rfl
          (g := F0 m (pc + 6) ls [.ref (od w.toNat), .ref T.heap.size, .ref T.heap.size]) rfl (hls.trans a2.symm) rfl rfl rfl d6 d9 (by rw [a6, hcc2]; intro y hy; cases hy) (by show names.length + 4 < R.frames; omega)
          (by
            have e1 : (F0 m (pc + 6) ls [.ref (od w.toNat), .ref T.heap.size, .ref T.heap.size]).monitorRoom = 0 := rfl
            rw [e1]
            show _ ≤ R.locals
            omega) a4
        have hsame2 : T.sameButNew ({ U with vm := T.vm } : State) [] (0 + 1) (0 + 6) := ab_sb hsame
        have hlow : ∀ q, q < T.heap.size → U.heap[q]? = T.heap[q]? := fun q hq => ab_sb_heap hsame2 hq
        have hUs : U.heap.size = T.heap.size + 1 := by
          have z1 : U.heap.size ≤ T.heap.size + (0 + 1) := hsame2.2.2.1
          have z2 := (Array.getElem?_eq_some_iff.mp hcE).1
          omega
        have hsame3 : s.sameButNew ({ U with vm := s.vm } : State) (locs ++ []) (cells + (0 + 1)) (slots + (0 + 6)) := X.same.trans (hsame2.setVm s.vm)
        have hRU : ab_R B od D dA cl NC NS s.heap n0 z0 (h ++ [.inr (ce, List.replicate 6 .null)]) U.heap locs (cells + 1) (slots + 6) := by
          refine hR.push rfl hc1 hc2 ⟨r, hr, ?_⟩ hUs hlow
          rw [hr0, ← b2]
          refine ⟨cE, hcE, ?_, K2, fun k hk => absurd hk (Nat.not_lt_zero _)⟩
          rw [K1]; exact Option.some.inj (hfX.symm.trans (hKC ce r hr).1.2.1)
        refine ⟨U, st1 _ ?_, hrun, ?_, State.WarmedH.trans X.warmed hW, locs, cells + 1, slots + 6, ?_, hRU⟩
        · show Steps p.tables e below (T₁.setTop (F0 m (pc + 3) ls [.ref T.heap.size])) U
          jvm_step X₁.here [X₁.here.top, hx, d3, Value.category]
          exact st2 _ hsteps
        · show Ended U below (.threw (B + h.length))
          rw [← b2]; exact hend
        · rw [List.append_nil] at hsame3
          exact hsame3
      · cases hth
    · cases hth
  · cases hth
set_option maxHeartbeats 8000000 in
theorem ab_TH0_ok (hx : p.tables.exec = Jvm.exec) (hnt : l.stackTraces = false) (hSF : ab_SF cl ct cd aty sb Ts mt) (h9 : ∀ M ∈ mt, ∀ x n, my_p M x = some n → ab_p9 cl Ts (my_y M).cls x n)   : ab_TH0 p l e B NC NS od D dA cl aty oa oo Ts nc mt := by
  intro M d R s m args below meth c H locs cells slots n0 z0 pc ce x1 x3 ls h hM hA hls hth hc1 hc2 hR
  obtain ⟨a1, a2, a3, a4, a5, a6, a7, a8, a9, a10, a11, a12, a13, ls1, ls2, aOO, aSZ, aMI⟩ := id hA
  obtain ⟨hsb, hCS, hgood, hus, hmws, hms⟩ := id hSF
  obtain ⟨hck, hpl⟩ := hms M hM
  unfold ab_th0 at hth
  split at hth
  · rename_i i0 l0 t0 l3 t3 i6 l6 t6 l9 t9 e0 e3 e6 e9
    split at hth
    · rename_i ce' _ _ cf _ _ p0 p6
      split at hth
      · rename_i hcc
        obtain ⟨hcc1, hcc2⟩ := hcc
        cases hth
        subst hcc1
        obtain ⟨d0, q0, -⟩ := ab_fe_ok hck e0
        obtain ⟨d3, q3, -⟩ := ab_fe_ok hck e3
        obtain ⟨d6, q6, -⟩ := ab_fe_ok hck e6
        obtain ⟨d9, q9, -⟩ := ab_fe_ok hck e9
        have k0 : l0 = 3 := by rcases q0 with q | q; exact absurd q (by simp [ab_len]); exact q
        have k3 : l3 = 1 := by rcases q3 with q | q; exact absurd q (by simp [ab_len]); exact q
        have k6 : l6 = 3 := by rcases q6 with q | q; exact absurd q (by simp [ab_len]); exact q
        have k9 : l9 = 1 := by rcases q9 with q | q; exact absurd q (by simp [ab_len]); exact q
        subst k0 k3 k6 k9
        rw [← a1] at d0 d3 d6 d9
        obtain ⟨r, hr, w1, w2, w3⟩ := h9 M hM _ _ p0
        obtain ⟨r', names, hr', hr0, hfit, hnl, hnf, hown9⟩ := h9 M hM _ _ p6
        cases hr.symm.trans hr'
        intro T hT X
        subst hT
        obtain ⟨b1, b2, b3, b4, b5, b6, b7⟩ := id hR
        have X0 := ab_rebase X (R' := { frames := R.frames, cells := R.cells - cells, slots := R.slots - slots, locals := R.locals }) (Nat.le_refl _) (Nat.le_refl _) (by show cells + (R.cells - cells) ≤ R.cells; omega) (by show slots + (R.slots - slots) ≤ R.slots; omega)
        have hF' : ab_F D dA cl aty od Ts nc mt (T.setFrames (.invoking m args :: below)) := a8.warm hgood hus X.warmed
        have ls1' : ab_LS B Bundle.tN "UNASSIGNED_STACK" Bundle.steD (T.setFrames (.invoking m args :: below)) (T.setFrames (.invoking m args :: below)).heap := ls1.kept X.warmed.alike b3.2.1
        have ls2' : ab_LS B Bundle.tN "SUPPRESSED_SENTINEL" Bundle.listD (T.setFrames (.invoking m args :: below)) (T.setFrames (.invoking m args :: below)).heap := ls2.kept X.warmed.alike b3.2.1
        obtain ⟨hTs, hKC, hKA, hNCs, hAO, hST⟩ := id hF'
        have hown : (T.setFrames (.invoking m args :: below)).vm.findClass (my_y M).cls = some m.cls := by
          show T.vm.findClass _ = _
          rw [X.warmed.alike.findClass]; exact a5
        have htr : e.platform.stackTraces = false := by rw [X.admits.platform]; exact hnt
        obtain ⟨vm₁, cX, kX, hfX, hkX, -, -, X₁, st1⟩ := X0.newCold hx (n := 6) hown (va_Nw.use rfl (hTs _ w1)) (va_Nw.use rfl (hTs _ w2)) (va_Nw.use rfl (hTs _ w3)) (g := F0 m pc ls []) rfl d0 (by show 0 + 1 ≤ R.cells - cells; omega) (by show 0 + 6 ≤ R.slots - slots; omega)
        have hcell : ((T.setVm vm₁).pushCell { cls := cX, slots := kX.instanceTypes.map defaultValue, vm := .none }).heap[T.heap.size]? = some (freshCell cX kX) := State.heap_pushCell_size _ _
        generalize hT1 : (T.setVm vm₁).pushCell { cls := cX, slots := kX.instanceTypes.map defaultValue, vm := .none } = T₁ at X₁ st1 hcell
        have hat : ∀ w ∈ Bundle.ownAtoms0 (my_y M).cls x3 r.1 names, w.before args (T.setFrames (.invoking m args :: below)) = true := by
          intro w hw
          rcases hown9 w hw with hz | hz
          · rcases hz with rfl | rfl | rfl | rfl
            · exact ls1'.lays args
            · exact ls2'.lays args
            · exact ls1'.isRef args
            · exact ls2'.isRef args
          · exact va_Nw.use (hgood w hz).1 (hTs w hz)
        obtain ⟨U, hsteps, hrun, hend, hW, hsame, cE, hcE, K⟩ := X₁.ctorThrow0 hx htr hown hfit hnf hat (fun y hy => by cases hy) hfX hkX hcell (Nat.le_refl _)
          (g := F0 m (pc + 4) ls [.ref T.heap.size, .ref T.heap.size]) rfl (hls.trans a2.symm) rfl rfl (rest := []) rfl d6 d9 (by rw [a6, hcc2]; intro y hy; cases hy) (by show names.length + 3 < R.frames; omega)
          (by
            have e1 : (F0 m (pc + 4) ls [.ref T.heap.size, .ref T.heap.size]).monitorRoom = 0 := rfl
            have e2 : ((Value.ref T.heap.size :: ([] : List Value)).map fun v => v.category).sum = 1 := rfl
            rw [e1, e2]
            show _ ≤ R.locals
            omega) a4
        have hsame2 : T.sameButNew ({ U with vm := T.vm } : State) [] (0 + 1) (0 + 6) := ab_sb hsame
        have hlow : ∀ q, q < T.heap.size → U.heap[q]? = T.heap[q]? := fun q hq => ab_sb_heap hsame2 hq
        have hUs : U.heap.size = T.heap.size + 1 := by
          have z1 : U.heap.size ≤ T.heap.size + (0 + 1) := hsame2.2.2.1
          have z2 := (Array.getElem?_eq_some_iff.mp hcE).1
          omega
        have hsame3 : s.sameButNew ({ U with vm := s.vm } : State) (locs ++ []) (cells + (0 + 1)) (slots + (0 + 6)) := X.same.trans (hsame2.setVm s.vm)
        have hRU : ab_R B od D dA cl NC NS s.heap n0 z0 (h ++ [.inr (ce, List.replicate 6 .null)]) U.heap locs (cells + 1) (slots + 6) := by
          refine hR.push rfl hc1 hc2 ⟨r, hr, ?_⟩ hUs hlow
          rw [hr0, ← b2]
          refine ⟨cE, hcE, ?_, K.vm, fun k hk => absurd hk (Nat.not_lt_zero _)⟩
          exact Option.some.inj (K.cls.symm.trans (hKC ce r hr).1.2.1)
        refine ⟨U, st1 _ ?_, hrun, ?_, State.WarmedH.trans X.warmed hW, locs, cells + 1, slots + 6, ?_, hRU⟩
        · show Steps p.tables e below (T₁.setTop (F0 m (pc + 3) ls [.ref T.heap.size])) U
          jvm_step X₁.here [X₁.here.top, hx, d3, Value.category]
          exact hsteps
        · show Ended U below (.threw (B + h.length))
          rw [← b2]; exact hend
        · rw [List.append_nil] at hsame3
          exact hsame3
      · cases hth
    · cases hth
  · cases hth
end AB7A
end
section
-- ===== PART A: goes FIRST, ahead of the names: the tables' words, and 'selects' of the private methods out of them =====
/-- a private method of a class that the tables say can be made, by its rows of tables_1 -/
def lw_okq (q : MethodName × Nat) : Prop := (q.1.cls ≠ "java/lang/invoke/MethodHandle" ∧ q.1.cls ≠ "java/lang/invoke/VarHandle") ∧ Cond.instantiable q.1.cls q.2 ∈ tables_1 ∧ Cond.privateMethod q.1 ∈ tables_1 ∧ Cond.instanceMethod q.1 ∈ tables_1
theorem lw_p0 : lw_okq (⟨"java/lang/Throwable", "fillInStackTrace", "(I)Ljava/lang/Throwable;"⟩, 6) := ⟨⟨by decide +kernel, by decide +kernel⟩, List.mem_of_getElem? (i := 187) (by decide +kernel), List.mem_of_getElem? (i := 185) (by decide +kernel), List.mem_of_getElem? (i := 186) (by decide +kernel)⟩
theorem lw_p1 : lw_okq (⟨"NotationReader$Tape", "blanksEnd", "(I)I"⟩, 6) := ⟨⟨by decide +kernel, by decide +kernel⟩, List.mem_of_getElem? (i := 38) (by decide +kernel), List.mem_of_getElem? (i := 264) (by decide +kernel), List.mem_of_getElem? (i := 265) (by decide +kernel)⟩
theorem lw_p2 : lw_okq (⟨"NotationReader$Tape", "at", "(I)I"⟩, 6) := ⟨⟨by decide +kernel, by decide +kernel⟩, List.mem_of_getElem? (i := 38) (by decide +kernel), List.mem_of_getElem? (i := 268) (by decide +kernel), List.mem_of_getElem? (i := 269) (by decide +kernel)⟩
theorem lw_p3 : lw_okq (⟨"NotationReader$Tape", "word", "(LNotationReader$Token;)V"⟩, 6) := ⟨⟨by decide +kernel, by decide +kernel⟩, List.mem_of_getElem? (i := 38) (by decide +kernel), List.mem_of_getElem? (i := 282) (by decide +kernel), List.mem_of_getElem? (i := 283) (by decide +kernel)⟩
theorem lw_p4 : lw_okq (⟨"NotationReader$Tape", "keep", "(I)V"⟩, 6) := ⟨⟨by decide +kernel, by decide +kernel⟩, List.mem_of_getElem? (i := 38) (by decide +kernel), List.mem_of_getElem? (i := 292) (by decide +kernel), List.mem_of_getElem? (i := 293) (by decide +kernel)⟩
theorem lw_p5 : lw_okq (⟨"NotationReader$Tape", "spells", "(LNotationReader$Token;Ljava/lang/String;)Z"⟩, 6) := ⟨⟨by decide +kernel, by decide +kernel⟩, List.mem_of_getElem? (i := 38) (by decide +kernel), List.mem_of_getElem? (i := 300) (by decide +kernel), List.mem_of_getElem? (i := 301) (by decide +kernel)⟩
theorem lw_p6 : lw_okq (⟨"NotationReader$Tape", "numeral", "(LNotationReader$Token;)V"⟩, 6) := ⟨⟨by decide +kernel, by decide +kernel⟩, List.mem_of_getElem? (i := 38) (by decide +kernel), List.mem_of_getElem? (i := 358) (by decide +kernel), List.mem_of_getElem? (i := 359) (by decide +kernel)⟩
theorem lw_p7 : lw_okq (⟨"NotationReader$Tape", "string", "(LNotationReader$Token;)V"⟩, 6) := ⟨⟨by decide +kernel, by decide +kernel⟩, List.mem_of_getElem? (i := 38) (by decide +kernel), List.mem_of_getElem? (i := 364) (by decide +kernel), List.mem_of_getElem? (i := 365) (by decide +kernel)⟩
theorem lw_p8 : lw_okq (⟨"NotationReader$Tape", "digits", "(LNotationReader$Token;)V"⟩, 6) := ⟨⟨by decide +kernel, by decide +kernel⟩, List.mem_of_getElem? (i := 38) (by decide +kernel), List.mem_of_getElem? (i := 368) (by decide +kernel), List.mem_of_getElem? (i := 369) (by decide +kernel)⟩
theorem lw_p9 : lw_okq (⟨"NotationReader$Tape", "sign", "(LNotationReader$Token;I)V"⟩, 6) := ⟨⟨by decide +kernel, by decide +kernel⟩, List.mem_of_getElem? (i := 38) (by decide +kernel), List.mem_of_getElem? (i := 375) (by decide +kernel), List.mem_of_getElem? (i := 376) (by decide +kernel)⟩
theorem lw_p10 : lw_okq (⟨"NotationReader", "value", "(I)V"⟩, 3) := ⟨⟨by decide +kernel, by decide +kernel⟩, List.mem_of_getElem? (i := 30) (by decide +kernel), List.mem_of_getElem? (i := 379) (by decide +kernel), List.mem_of_getElem? (i := 380) (by decide +kernel)⟩
theorem lw_p11 : lw_okq (⟨"NotationReader", "braces", "(I)V"⟩, 3) := ⟨⟨by decide +kernel, by decide +kernel⟩, List.mem_of_getElem? (i := 30) (by decide +kernel), List.mem_of_getElem? (i := 383) (by decide +kernel), List.mem_of_getElem? (i := 384) (by decide +kernel)⟩
theorem lw_p12 : lw_okq (⟨"NotationReader", "refuse", "()V"⟩, 3) := ⟨⟨by decide +kernel, by decide +kernel⟩, List.mem_of_getElem? (i := 30) (by decide +kernel), List.mem_of_getElem? (i := 387) (by decide +kernel), List.mem_of_getElem? (i := 388) (by decide +kernel)⟩
theorem lw_p13 : lw_okq (⟨"NotationReader", "add", "(I)LNotationReader$Node;"⟩, 3) := ⟨⟨by decide +kernel, by decide +kernel⟩, List.mem_of_getElem? (i := 30) (by decide +kernel), List.mem_of_getElem? (i := 407) (by decide +kernel), List.mem_of_getElem? (i := 408) (by decide +kernel)⟩
theorem lw_p14 : lw_okq (⟨"java/util/ArrayList", "add", "(Ljava/lang/Object;[Ljava/lang/Object;I)V"⟩, 3) := ⟨⟨by decide +kernel, by decide +kernel⟩, List.mem_of_getElem? (i := 100) (by decide +kernel), List.mem_of_getElem? (i := 448) (by decide +kernel), List.mem_of_getElem? (i := 449) (by decide +kernel)⟩
theorem lw_p15 : lw_okq (⟨"java/util/ArrayList", "grow", "()[Ljava/lang/Object;"⟩, 3) := ⟨⟨by decide +kernel, by decide +kernel⟩, List.mem_of_getElem? (i := 100) (by decide +kernel), List.mem_of_getElem? (i := 452) (by decide +kernel), List.mem_of_getElem? (i := 453) (by decide +kernel)⟩
def lw_privs_1 : List (MethodName × Nat) := [(⟨"java/lang/Throwable", "fillInStackTrace", "(I)Ljava/lang/Throwable;"⟩, 6), (⟨"NotationReader$Tape", "blanksEnd", "(I)I"⟩, 6), (⟨"NotationReader$Tape", "at", "(I)I"⟩, 6), (⟨"NotationReader$Tape", "word", "(LNotationReader$Token;)V"⟩, 6), (⟨"NotationReader$Tape", "keep", "(I)V"⟩, 6), (⟨"NotationReader$Tape", "spells", "(LNotationReader$Token;Ljava/lang/String;)Z"⟩, 6), (⟨"NotationReader$Tape", "numeral", "(LNotationReader$Token;)V"⟩, 6), (⟨"NotationReader$Tape", "string", "(LNotationReader$Token;)V"⟩, 6), (⟨"NotationReader$Tape", "digits", "(LNotationReader$Token;)V"⟩, 6), (⟨"NotationReader$Tape", "sign", "(LNotationReader$Token;I)V"⟩, 6), (⟨"NotationReader", "value", "(I)V"⟩, 3), (⟨"NotationReader", "braces", "(I)V"⟩, 3), (⟨"NotationReader", "refuse", "()V"⟩, 3), (⟨"NotationReader", "add", "(I)LNotationReader$Node;"⟩, 3), (⟨"java/util/ArrayList", "add", "(Ljava/lang/Object;[Ljava/lang/Object;I)V"⟩, 3), (⟨"java/util/ArrayList", "grow", "()[Ljava/lang/Object;"⟩, 3)]
theorem lw_r1 : ∀ q ∈ lw_privs_1, lw_okq q := List.forall_mem_cons.mpr ⟨lw_p0, List.forall_mem_cons.mpr ⟨lw_p1, List.forall_mem_cons.mpr ⟨lw_p2, List.forall_mem_cons.mpr ⟨lw_p3, List.forall_mem_cons.mpr ⟨lw_p4, List.forall_mem_cons.mpr ⟨lw_p5, List.forall_mem_cons.mpr ⟨lw_p6, List.forall_mem_cons.mpr ⟨lw_p7, List.forall_mem_cons.mpr ⟨lw_p8, List.forall_mem_cons.mpr ⟨lw_p9, List.forall_mem_cons.mpr ⟨lw_p10, List.forall_mem_cons.mpr ⟨lw_p11, List.forall_mem_cons.mpr ⟨lw_p12, List.forall_mem_cons.mpr ⟨lw_p13, List.forall_mem_cons.mpr ⟨lw_p14, List.forall_mem_cons.mpr ⟨lw_p15, fun _ h => absurd h List.not_mem_nil⟩⟩⟩⟩⟩⟩⟩⟩⟩⟩⟩⟩⟩⟩⟩⟩
theorem lw_p16 : lw_okq (⟨"java/util/ArrayList", "grow", "(I)[Ljava/lang/Object;"⟩, 3) := ⟨⟨by decide +kernel, by decide +kernel⟩, List.mem_of_getElem? (i := 100) (by decide +kernel), List.mem_of_getElem? (i := 456) (by decide +kernel), List.mem_of_getElem? (i := 457) (by decide +kernel)⟩
theorem lw_p17 : lw_okq (⟨"NotationReader", "close", "(LNotationReader$Node;)V"⟩, 3) := ⟨⟨by decide +kernel, by decide +kernel⟩, List.mem_of_getElem? (i := 30) (by decide +kernel), List.mem_of_getElem? (i := 504) (by decide +kernel), List.mem_of_getElem? (i := 505) (by decide +kernel)⟩
theorem lw_p18 : lw_okq (⟨"NotationReader", "formOfBraces", "()I"⟩, 3) := ⟨⟨by decide +kernel, by decide +kernel⟩, List.mem_of_getElem? (i := 30) (by decide +kernel), List.mem_of_getElem? (i := 513) (by decide +kernel), List.mem_of_getElem? (i := 514) (by decide +kernel)⟩
theorem lw_p19 : lw_okq (⟨"NotationReader", "numbers", "(LNotationReader$Node;)V"⟩, 3) := ⟨⟨by decide +kernel, by decide +kernel⟩, List.mem_of_getElem? (i := 30) (by decide +kernel), List.mem_of_getElem? (i := 520) (by decide +kernel), List.mem_of_getElem? (i := 521) (by decide +kernel)⟩
theorem lw_p20 : lw_okq (⟨"NotationReader", "idWithValue", "()LNotationReader$Node;"⟩, 3) := ⟨⟨by decide +kernel, by decide +kernel⟩, List.mem_of_getElem? (i := 30) (by decide +kernel), List.mem_of_getElem? (i := 524) (by decide +kernel), List.mem_of_getElem? (i := 525) (by decide +kernel)⟩
theorem lw_p21 : lw_okq (⟨"NotationReader", "demand", "(I)V"⟩, 3) := ⟨⟨by decide +kernel, by decide +kernel⟩, List.mem_of_getElem? (i := 30) (by decide +kernel), List.mem_of_getElem? (i := 528) (by decide +kernel), List.mem_of_getElem? (i := 529) (by decide +kernel)⟩
theorem lw_p22 : lw_okq (⟨"NotationReader", "choice", "(I)V"⟩, 3) := ⟨⟨by decide +kernel, by decide +kernel⟩, List.mem_of_getElem? (i := 30) (by decide +kernel), List.mem_of_getElem? (i := 532) (by decide +kernel), List.mem_of_getElem? (i := 533) (by decide +kernel)⟩
theorem lw_p23 : lw_okq (⟨"NotationReader", "negative", "()V"⟩, 3) := ⟨⟨by decide +kernel, by decide +kernel⟩, List.mem_of_getElem? (i := 30) (by decide +kernel), List.mem_of_getElem? (i := 536) (by decide +kernel), List.mem_of_getElem? (i := 537) (by decide +kernel)⟩
theorem lw_p24 : lw_okq (⟨"NotationReader", "nodeAt", "(I)LNotationReader$Node;"⟩, 3) := ⟨⟨by decide +kernel, by decide +kernel⟩, List.mem_of_getElem? (i := 30) (by decide +kernel), List.mem_of_getElem? (i := 547) (by decide +kernel), List.mem_of_getElem? (i := 548) (by decide +kernel)⟩
theorem lw_p25 : lw_okq (⟨"NotationReaderModel", "fail", "(I)I"⟩, 21) := ⟨⟨by decide +kernel, by decide +kernel⟩, List.mem_of_getElem? (i := 630) (by decide +kernel), List.mem_of_getElem? (i := 759) (by decide +kernel), List.mem_of_getElem? (i := 760) (by decide +kernel)⟩
theorem lw_p26 : lw_okq (⟨"NotationReaderModel", "advance", "()V"⟩, 21) := ⟨⟨by decide +kernel, by decide +kernel⟩, List.mem_of_getElem? (i := 630) (by decide +kernel), List.mem_of_getElem? (i := 772) (by decide +kernel), List.mem_of_getElem? (i := 773) (by decide +kernel)⟩
theorem lw_p27 : lw_okq (⟨"NotationReaderModel", "skip", "()V"⟩, 21) := ⟨⟨by decide +kernel, by decide +kernel⟩, List.mem_of_getElem? (i := 630) (by decide +kernel), List.mem_of_getElem? (i := 776) (by decide +kernel), List.mem_of_getElem? (i := 777) (by decide +kernel)⟩
theorem lw_p28 : lw_okq (⟨"NotationReaderModel", "byteAt", "(I)I"⟩, 21) := ⟨⟨by decide +kernel, by decide +kernel⟩, List.mem_of_getElem? (i := 630) (by decide +kernel), List.mem_of_getElem? (i := 780) (by decide +kernel), List.mem_of_getElem? (i := 781) (by decide +kernel)⟩
theorem lw_p29 : lw_okq (⟨"NotationReaderModel", "blank", "(I)Z"⟩, 21) := ⟨⟨by decide +kernel, by decide +kernel⟩, List.mem_of_getElem? (i := 630) (by decide +kernel), List.mem_of_getElem? (i := 784) (by decide +kernel), List.mem_of_getElem? (i := 785) (by decide +kernel)⟩
theorem lw_p30 : lw_okq (⟨"NotationReaderModel", "letter", "(I)Z"⟩, 21) := ⟨⟨by decide +kernel, by decide +kernel⟩, List.mem_of_getElem? (i := 630) (by decide +kernel), List.mem_of_getElem? (i := 788) (by decide +kernel), List.mem_of_getElem? (i := 789) (by decide +kernel)⟩
theorem lw_p31 : lw_okq (⟨"NotationReaderModel", "words", "()V"⟩, 21) := ⟨⟨by decide +kernel, by decide +kernel⟩, List.mem_of_getElem? (i := 630) (by decide +kernel), List.mem_of_getElem? (i := 792) (by decide +kernel), List.mem_of_getElem? (i := 793) (by decide +kernel)⟩
def lw_privs_2 : List (MethodName × Nat) := [(⟨"java/util/ArrayList", "grow", "(I)[Ljava/lang/Object;"⟩, 3), (⟨"NotationReader", "close", "(LNotationReader$Node;)V"⟩, 3), (⟨"NotationReader", "formOfBraces", "()I"⟩, 3), (⟨"NotationReader", "numbers", "(LNotationReader$Node;)V"⟩, 3), (⟨"NotationReader", "idWithValue", "()LNotationReader$Node;"⟩, 3), (⟨"NotationReader", "demand", "(I)V"⟩, 3), (⟨"NotationReader", "choice", "(I)V"⟩, 3), (⟨"NotationReader", "negative", "()V"⟩, 3), (⟨"NotationReader", "nodeAt", "(I)LNotationReader$Node;"⟩, 3), (⟨"NotationReaderModel", "fail", "(I)I"⟩, 21), (⟨"NotationReaderModel", "advance", "()V"⟩, 21), (⟨"NotationReaderModel", "skip", "()V"⟩, 21), (⟨"NotationReaderModel", "byteAt", "(I)I"⟩, 21), (⟨"NotationReaderModel", "blank", "(I)Z"⟩, 21), (⟨"NotationReaderModel", "letter", "(I)Z"⟩, 21), (⟨"NotationReaderModel", "words", "()V"⟩, 21)]
theorem lw_r2 : ∀ q ∈ lw_privs_2, lw_okq q := List.forall_mem_cons.mpr ⟨lw_p16, List.forall_mem_cons.mpr ⟨lw_p17, List.forall_mem_cons.mpr ⟨lw_p18, List.forall_mem_cons.mpr ⟨lw_p19, List.forall_mem_cons.mpr ⟨lw_p20, List.forall_mem_cons.mpr ⟨lw_p21, List.forall_mem_cons.mpr ⟨lw_p22, List.forall_mem_cons.mpr ⟨lw_p23, List.forall_mem_cons.mpr ⟨lw_p24, List.forall_mem_cons.mpr ⟨lw_p25, List.forall_mem_cons.mpr ⟨lw_p26, List.forall_mem_cons.mpr ⟨lw_p27, List.forall_mem_cons.mpr ⟨lw_p28, List.forall_mem_cons.mpr ⟨lw_p29, List.forall_mem_cons.mpr ⟨lw_p30, List.forall_mem_cons.mpr ⟨lw_p31, fun _ h => absurd h List.not_mem_nil⟩⟩⟩⟩⟩⟩⟩⟩⟩⟩⟩⟩⟩⟩⟩⟩
theorem lw_p32 : lw_okq (⟨"NotationReaderModel", "digit", "(I)Z"⟩, 21) := ⟨⟨by decide +kernel, by decide +kernel⟩, List.mem_of_getElem? (i := 630) (by decide +kernel), List.mem_of_getElem? (i := 796) (by decide +kernel), List.mem_of_getElem? (i := 797) (by decide +kernel)⟩
theorem lw_p33 : lw_okq (⟨"NotationReaderModel", "text", "(II)Ljava/lang/String;"⟩, 21) := ⟨⟨by decide +kernel, by decide +kernel⟩, List.mem_of_getElem? (i := 630) (by decide +kernel), List.mem_of_getElem? (i := 800) (by decide +kernel), List.mem_of_getElem? (i := 801) (by decide +kernel)⟩
theorem lw_p34 : lw_okq (⟨"NotationReaderModel", "numbers", "()V"⟩, 21) := ⟨⟨by decide +kernel, by decide +kernel⟩, List.mem_of_getElem? (i := 630) (by decide +kernel), List.mem_of_getElem? (i := 1029) (by decide +kernel), List.mem_of_getElem? (i := 1030) (by decide +kernel)⟩
theorem lw_p35 : lw_okq (⟨"NotationReaderModel", "strings", "()V"⟩, 21) := ⟨⟨by decide +kernel, by decide +kernel⟩, List.mem_of_getElem? (i := 630) (by decide +kernel), List.mem_of_getElem? (i := 1035) (by decide +kernel), List.mem_of_getElem? (i := 1036) (by decide +kernel)⟩
theorem lw_p36 : lw_okq (⟨"NotationReaderModel", "quoted", "()V"⟩, 21) := ⟨⟨by decide +kernel, by decide +kernel⟩, List.mem_of_getElem? (i := 630) (by decide +kernel), List.mem_of_getElem? (i := 1039) (by decide +kernel), List.mem_of_getElem? (i := 1040) (by decide +kernel)⟩
theorem lw_p37 : lw_okq (⟨"NotationReaderModel", "value", "()LNotationReaderModel$Value;"⟩, 21) := ⟨⟨by decide +kernel, by decide +kernel⟩, List.mem_of_getElem? (i := 630) (by decide +kernel), List.mem_of_getElem? (i := 1045) (by decide +kernel), List.mem_of_getElem? (i := 1046) (by decide +kernel)⟩
theorem lw_p38 : lw_okq (⟨"NotationReaderModel", "is", "(Ljava/lang/String;)Z"⟩, 21) := ⟨⟨by decide +kernel, by decide +kernel⟩, List.mem_of_getElem? (i := 630) (by decide +kernel), List.mem_of_getElem? (i := 1049) (by decide +kernel), List.mem_of_getElem? (i := 1050) (by decide +kernel)⟩
theorem lw_p39 : lw_okq (⟨"NotationReaderModel", "whole", "()J"⟩, 21) := ⟨⟨by decide +kernel, by decide +kernel⟩, List.mem_of_getElem? (i := 630) (by decide +kernel), List.mem_of_getElem? (i := 1094) (by decide +kernel), List.mem_of_getElem? (i := 1095) (by decide +kernel)⟩
theorem lw_p40 : lw_okq (⟨"NotationReaderModel", "can", "(Z)V"⟩, 21) := ⟨⟨by decide +kernel, by decide +kernel⟩, List.mem_of_getElem? (i := 630) (by decide +kernel), List.mem_of_getElem? (i := 1098) (by decide +kernel), List.mem_of_getElem? (i := 1099) (by decide +kernel)⟩
theorem lw_p41 : lw_okq (⟨"NotationReaderModel", "take", "(I)Ljava/lang/String;"⟩, 21) := ⟨⟨by decide +kernel, by decide +kernel⟩, List.mem_of_getElem? (i := 630) (by decide +kernel), List.mem_of_getElem? (i := 1112) (by decide +kernel), List.mem_of_getElem? (i := 1113) (by decide +kernel)⟩
theorem lw_p42 : lw_okq (⟨"NotationReaderModel", "open", "()V"⟩, 21) := ⟨⟨by decide +kernel, by decide +kernel⟩, List.mem_of_getElem? (i := 630) (by decide +kernel), List.mem_of_getElem? (i := 1116) (by decide +kernel), List.mem_of_getElem? (i := 1117) (by decide +kernel)⟩
theorem lw_p43 : lw_okq (⟨"NotationReaderModel", "braces", "(I)LNotationReaderModel$Value;"⟩, 21) := ⟨⟨by decide +kernel, by decide +kernel⟩, List.mem_of_getElem? (i := 630) (by decide +kernel), List.mem_of_getElem? (i := 1124) (by decide +kernel), List.mem_of_getElem? (i := 1125) (by decide +kernel)⟩
theorem lw_p44 : lw_okq (⟨"NotationReaderModel", "beginsValue", "()Z"⟩, 21) := ⟨⟨by decide +kernel, by decide +kernel⟩, List.mem_of_getElem? (i := 630) (by decide +kernel), List.mem_of_getElem? (i := 1128) (by decide +kernel), List.mem_of_getElem? (i := 1129) (by decide +kernel)⟩
theorem lw_p45 : lw_okq (⟨"NotationReaderModel", "expect", "(Ljava/lang/String;)V"⟩, 21) := ⟨⟨by decide +kernel, by decide +kernel⟩, List.mem_of_getElem? (i := 630) (by decide +kernel), List.mem_of_getElem? (i := 1132) (by decide +kernel), List.mem_of_getElem? (i := 1133) (by decide +kernel)⟩
theorem lw_p46 : lw_okq (⟨"NotationReaderModel", "lay", "(LNotationReaderModel$Value;I)V"⟩, 21) := ⟨⟨by decide +kernel, by decide +kernel⟩, List.mem_of_getElem? (i := 630) (by decide +kernel), List.mem_of_getElem? (i := 1136) (by decide +kernel), List.mem_of_getElem? (i := 1137) (by decide +kernel)⟩
theorem lw_p47 : lw_okq (⟨"NotationReaderModel", "node", "(IIILNotationReaderModel$Value;Ljava/lang/String;I)I"⟩, 21) := ⟨⟨by decide +kernel, by decide +kernel⟩, List.mem_of_getElem? (i := 630) (by decide +kernel), List.mem_of_getElem? (i := 1140) (by decide +kernel), List.mem_of_getElem? (i := 1141) (by decide +kernel)⟩
def lw_privs_3 : List (MethodName × Nat) := [(⟨"NotationReaderModel", "digit", "(I)Z"⟩, 21), (⟨"NotationReaderModel", "text", "(II)Ljava/lang/String;"⟩, 21), (⟨"NotationReaderModel", "numbers", "()V"⟩, 21), (⟨"NotationReaderModel", "strings", "()V"⟩, 21), (⟨"NotationReaderModel", "quoted", "()V"⟩, 21), (⟨"NotationReaderModel", "value", "()LNotationReaderModel$Value;"⟩, 21), (⟨"NotationReaderModel", "is", "(Ljava/lang/String;)Z"⟩, 21), (⟨"NotationReaderModel", "whole", "()J"⟩, 21), (⟨"NotationReaderModel", "can", "(Z)V"⟩, 21), (⟨"NotationReaderModel", "take", "(I)Ljava/lang/String;"⟩, 21), (⟨"NotationReaderModel", "open", "()V"⟩, 21), (⟨"NotationReaderModel", "braces", "(I)LNotationReaderModel$Value;"⟩, 21), (⟨"NotationReaderModel", "beginsValue", "()Z"⟩, 21), (⟨"NotationReaderModel", "expect", "(Ljava/lang/String;)V"⟩, 21), (⟨"NotationReaderModel", "lay", "(LNotationReaderModel$Value;I)V"⟩, 21), (⟨"NotationReaderModel", "node", "(IIILNotationReaderModel$Value;Ljava/lang/String;I)I"⟩, 21)]
theorem lw_r3 : ∀ q ∈ lw_privs_3, lw_okq q := List.forall_mem_cons.mpr ⟨lw_p32, List.forall_mem_cons.mpr ⟨lw_p33, List.forall_mem_cons.mpr ⟨lw_p34, List.forall_mem_cons.mpr ⟨lw_p35, List.forall_mem_cons.mpr ⟨lw_p36, List.forall_mem_cons.mpr ⟨lw_p37, List.forall_mem_cons.mpr ⟨lw_p38, List.forall_mem_cons.mpr ⟨lw_p39, List.forall_mem_cons.mpr ⟨lw_p40, List.forall_mem_cons.mpr ⟨lw_p41, List.forall_mem_cons.mpr ⟨lw_p42, List.forall_mem_cons.mpr ⟨lw_p43, List.forall_mem_cons.mpr ⟨lw_p44, List.forall_mem_cons.mpr ⟨lw_p45, List.forall_mem_cons.mpr ⟨lw_p46, List.forall_mem_cons.mpr ⟨lw_p47, fun _ h => absurd h List.not_mem_nil⟩⟩⟩⟩⟩⟩⟩⟩⟩⟩⟩⟩⟩⟩⟩⟩
theorem lw_p48 : lw_okq (⟨"NotationReaderModel", "out", "(I)Z"⟩, 21) := ⟨⟨by decide +kernel, by decide +kernel⟩, List.mem_of_getElem? (i := 630) (by decide +kernel), List.mem_of_getElem? (i := 1152) (by decide +kernel), List.mem_of_getElem? (i := 1153) (by decide +kernel)⟩
theorem lw_p49 : lw_okq (⟨"NotationReaderModel", "units", "(I)I"⟩, 21) := ⟨⟨by decide +kernel, by decide +kernel⟩, List.mem_of_getElem? (i := 630) (by decide +kernel), List.mem_of_getElem? (i := 1156) (by decide +kernel), List.mem_of_getElem? (i := 1157) (by decide +kernel)⟩
def lw_privs_4 : List (MethodName × Nat) := [(⟨"NotationReaderModel", "out", "(I)Z"⟩, 21), (⟨"NotationReaderModel", "units", "(I)I"⟩, 21)]
theorem lw_r4 : ∀ q ∈ lw_privs_4, lw_okq q := List.forall_mem_cons.mpr ⟨lw_p48, List.forall_mem_cons.mpr ⟨lw_p49, fun _ h => absurd h List.not_mem_nil⟩⟩
def lw_privs : List (MethodName × Nat) := lw_privs_1 ++ (lw_privs_2 ++ (lw_privs_3 ++ (lw_privs_4)))
def lw_tbl : List Cond := k2_sels lw_privs ++ tables_1
theorem lw_privs_ok : ∀ q ∈ lw_privs, lw_okq q := by
  show ∀ q ∈ lw_privs_1 ++ (lw_privs_2 ++ (lw_privs_3 ++ (lw_privs_4))), lw_okq q
  exact List.forall_mem_append.mpr ⟨lw_r1, List.forall_mem_append.mpr ⟨lw_r2, List.forall_mem_append.mpr ⟨lw_r3, lw_r4⟩⟩⟩
end
section
/-! THE PROGRAM: classes, pools, methods; made by wip/whole/gen/tables.py out of the Statement -/
def xT0 : u_T := fun k => match k with
  | 0 => ("NotationReader", "tape", "LNotationReader$Tape;", true)
  | 1 => ("NotationReader", "nodes", "Ljava/util/ArrayList;", true)
  | 2 => ("NotationReader", "place", "I", false)
  | _ => ("", "", "", false)
def xY0 : Nat → FieldType := fun k => match k with
  | 0 => .object "NotationReader$Tape"
  | 1 => .object "java/util/ArrayList"
  | 2 => .int
  | _ => .int
def xT1 : u_T := fun k => match k with
  | 0 => ("NotationReader$Tape", "bytes", "[B", true)
  | 1 => ("NotationReader$Tape", "letters", "[B", true)
  | 2 => ("NotationReader$Tape", "kept", "I", false)
  | 3 => ("NotationReader$Tape", "length", "I", false)
  | 4 => ("NotationReader$Tape", "here", "LNotationReader$Token;", false)
  | 5 => ("NotationReader$Tape", "ahead", "LNotationReader$Token;", false)
  | _ => ("", "", "", false)
def xY1 : Nat → FieldType := fun k => match k with
  | 0 => .array (.byte)
  | 1 => .array (.byte)
  | 2 => .int
  | 3 => .int
  | 4 => .object "NotationReader$Token"
  | 5 => .object "NotationReader$Token"
  | _ => .int
def xT2 : u_T := fun k => match k with
  | 0 => ("NotationReader$Token", "kind", "I", false)
  | 1 => ("NotationReader$Token", "begin", "I", false)
  | 2 => ("NotationReader$Token", "end", "I", false)
  | 3 => ("NotationReader$Token", "first", "I", false)
  | 4 => ("NotationReader$Token", "letters", "I", false)
  | 5 => ("NotationReader$Token", "value", "J", false)
  | _ => ("", "", "", false)
def xY2 : Nat → FieldType := fun k => match k with
  | 0 => .int
  | 1 => .int
  | 2 => .int
  | 3 => .int
  | 4 => .int
  | 5 => .long
  | _ => .int
def xT3 : u_T := fun k => match k with
  | 0 => ("NotationReaderModel", "failed", "I", false)
  | 1 => ("NotationReaderModel", "tape", "[B", true)
  | 2 => ("NotationReaderModel", "taped", "I", false)
  | 3 => ("NotationReaderModel", "place", "I", false)
  | 4 => ("NotationReaderModel", "signs", "[Ljava/lang/String;", true)
  | 5 => ("NotationReaderModel", "keptWords", "[Ljava/lang/String;", true)
  | 6 => ("NotationReaderModel", "token", "I", false)
  | 7 => ("NotationReaderModel", "from", "I", false)
  | 8 => ("NotationReaderModel", "to", "I", false)
  | 9 => ("NotationReaderModel", "number", "J", false)
  | 10 => ("NotationReaderModel", "word", "Ljava/lang/String;", false)
  | 11 => ("NotationReaderModel", "at", "I", false)
  | 12 => ("NotationReaderModel", "valuesOpen", "I", false)
  | 13 => ("NotationReaderModel", "typesOpen", "I", false)
  | 14 => ("NotationReaderModel", "nodes", "I", false)
  | 15 => ("NotationReaderModel", "values", "[LNotationReaderModel$Value;", false)
  | 16 => ("NotationReaderModel", "kinds", "[I", false)
  | 17 => ("NotationReaderModel", "places", "[I", false)
  | 18 => ("NotationReaderModel", "counts", "[I", false)
  | 19 => ("NotationReaderModel", "arounds", "[I", false)
  | 20 => ("NotationReaderModel", "names", "[Ljava/lang/String;", false)
  | _ => ("", "", "", false)
def xY3 : Nat → FieldType := fun k => match k with
  | 0 => .int
  | 1 => .array (.byte)
  | 2 => .int
  | 3 => .int
  | 4 => .array (.object "java/lang/String")
  | 5 => .array (.object "java/lang/String")
  | 6 => .int
  | 7 => .int
  | 8 => .int
  | 9 => .long
  | 10 => .object "java/lang/String"
  | 11 => .int
  | 12 => .int
  | 13 => .int
  | 14 => .int
  | 15 => .array (.object "NotationReaderModel$Value")
  | 16 => .array (.int)
  | 17 => .array (.int)
  | 18 => .array (.int)
  | 19 => .array (.int)
  | 20 => .array (.object "java/lang/String")
  | _ => .int
def xT4 : u_T := fun k => match k with
  | 0 => ("java/util/ArrayList", "elementData", "[Ljava/lang/Object;", false)
  | 1 => ("java/util/ArrayList", "size", "I", false)
  | 2 => ("java/util/AbstractList", "modCount", "I", false)
  | _ => ("", "", "", false)
def xY4 : Nat → FieldType := fun k => match k with
  | 0 => .array (.object "java/lang/Object")
  | 1 => .int
  | 2 => .int
  | _ => .int
def xT5 : u_T := fun k => match k with
  | _ => ("", "", "", false)
def xY5 : Nat → FieldType := fun k => match k with
  | _ => .int
def xT6 : u_T := fun k => match k with
  | _ => ("", "", "", false)
def xY6 : Nat → FieldType := fun k => match k with
  | _ => .int
def xT7 : u_T := fun k => match k with
  | _ => ("", "", "", false)
def xY7 : Nat → FieldType := fun k => match k with
  | _ => .int
def xT8 : u_T := fun k => match k with
  | _ => ("", "", "", false)
def xY8 : Nat → FieldType := fun k => match k with
  | _ => .int
def xT9 : u_T := fun k => match k with
  | 0 => ("java/lang/String", "value", "[B", true)
  | 1 => ("java/lang/String", "coder", "B", true)
  | 2 => ("java/lang/String", "hash", "I", false)
  | 3 => ("java/lang/String", "hashIsZero", "Z", false)
  | _ => ("", "", "", false)
def xY9 : Nat → FieldType := fun k => match k with
  | 0 => .array (.byte)
  | 1 => .byte
  | 2 => .int
  | 3 => .boolean
  | _ => .int
def xT10 : u_T := fun k => match k with
  | 0 => ("NotationReader$Node", "kind", "I", false)
  | 1 => ("NotationReader$Node", "begin", "I", true)
  | 2 => ("NotationReader$Node", "first", "I", true)
  | 3 => ("NotationReader$Node", "letters", "I", true)
  | 4 => ("NotationReader$Node", "value", "J", false)
  | 5 => ("NotationReader$Node", "parts", "I", false)
  | 6 => ("NotationReader$Node", "after", "I", false)
  | _ => ("", "", "", false)
def xY10 : Nat → FieldType := fun k => match k with
  | 0 => .int
  | 1 => .int
  | 2 => .int
  | 3 => .int
  | 4 => .long
  | 5 => .int
  | 6 => .int
  | _ => .int
def xT11 : u_T := fun k => match k with
  | 0 => ("NotationReaderModel$Value", "kind", "I", true)
  | 1 => ("NotationReaderModel$Value", "place", "I", true)
  | 2 => ("NotationReaderModel$Value", "end", "I", false)
  | 3 => ("NotationReaderModel$Value", "number", "J", false)
  | 4 => ("NotationReaderModel$Value", "text", "Ljava/lang/String;", false)
  | 5 => ("NotationReaderModel$Value", "parts", "[LNotationReaderModel$Value;", false)
  | 6 => ("NotationReaderModel$Value", "names", "[Ljava/lang/String;", false)
  | 7 => ("NotationReaderModel$Value", "places", "[I", false)
  | 8 => ("NotationReaderModel$Value", "count", "I", false)
  | _ => ("", "", "", false)
def xY11 : Nat → FieldType := fun k => match k with
  | 0 => .int
  | 1 => .int
  | 2 => .int
  | 3 => .long
  | 4 => .object "java/lang/String"
  | 5 => .array (.object "NotationReaderModel$Value")
  | 6 => .array (.object "java/lang/String")
  | 7 => .array (.int)
  | 8 => .int
  | _ => .int
def xT12 : u_T := fun k => match k with
  | 0 => ("java/lang/AbstractStringBuilder", "value", "[B", false)
  | 1 => ("java/lang/AbstractStringBuilder", "coder", "B", false)
  | 2 => ("java/lang/AbstractStringBuilder", "maybeLatin1", "Z", false)
  | 3 => ("java/lang/AbstractStringBuilder", "count", "I", false)
  | _ => ("", "", "", false)
def xY12 : Nat → FieldType := fun k => match k with
  | 0 => .array (.byte)
  | 1 => .byte
  | 2 => .boolean
  | 3 => .int
  | _ => .int
def x_cl : List vw_C := [("NotationReader", xT0, 3), ("NotationReader$Tape", xT1, 6), ("NotationReader$Token", xT2, 6), ("NotationReaderModel", xT3, 21), ("java/util/ArrayList", xT4, 3), ("java/lang/IndexOutOfBoundsException", xT5, 0), ("java/lang/IllegalArgumentException", xT6, 0), ("java/lang/UnsupportedOperationException", xT7, 0), ("java/util/NoSuchElementException", xT8, 0), ("java/lang/String", xT9, 4), ("NotationReader$Node", xT10, 7), ("NotationReaderModel$Value", xT11, 9), ("java/lang/StringBuilder", xT12, 4)]
def x_ct : Nat → Nat → FieldType := fun ci => match ci with
  | 0 => xY0
  | 1 => xY1
  | 2 => xY2
  | 3 => xY3
  | 4 => xY4
  | 5 => xY5
  | 6 => xY6
  | 7 => xY7
  | 8 => xY8
  | 9 => xY9
  | 10 => xY10
  | 11 => xY11
  | 12 => xY12
  | _ => fun _ => .int
def x_cd : Nat → List Value := fun ci => match ci with
  | 0 => [.null, .null, .int 0]
  | 1 => [.null, .null, .int 0, .int 0, .null, .null]
  | 2 => [.int 0, .int 0, .int 0, .int 0, .int 0, .long 0]
  | 3 => [.int 0, .null, .int 0, .int 0, .null, .null, .int 0, .int 0, .int 0, .long 0, .null, .int 0, .int 0, .int 0, .int 0, .null, .null, .null, .null, .null, .null]
  | 4 => [.null, .int 0, .int 0]
  | 5 => []
  | 6 => []
  | 7 => []
  | 8 => []
  | 9 => [.null, .int 0, .int 0, .int 0]
  | 10 => [.int 0, .int 0, .int 0, .int 0, .long 0, .int 0, .int 0]
  | 11 => [.int 0, .int 0, .int 0, .long 0, .null, .null, .null, .null, .int 0]
  | 12 => [.null, .int 0, .int 0, .int 0]
  | _ => []
def x_aty : List FieldType := [.byte, .int, .long, .object "java/lang/String", .object "NotationReaderModel$Value", .object "java/lang/Object"]
def x_sb : List (Nat × Nat) := [(3, 9), (4, 11), (5, 10)]
def x_nc : List (Nat × Nat) := [(5, 6), (5, 7), (5, 8), (6, 5), (6, 7), (6, 8), (7, 5), (7, 6), (7, 8), (8, 5), (8, 6), (8, 7)]
def xlk (l : List (Nat × ab_N)) (x : Nat) : Option ab_N := (l.find? (fun q => q.1 == x)).map (fun q => q.2)
def xP0 : List (Nat × ab_N) := [(8, (2, 0, 0, .null)), (50, (1, 93, 0, .null)), (51, (2, 3, 0, .null)), (53, (1, 10, 0, .null)), (54, (1, 1, 0, .null)), (59, (1, 35, 2, .null)), (60, (1, 2, 0, .null)), (63, (1, 36, 2, .null)), (64, (1, 3, 0, .null)), (67, (1, 37, 2, .null)), (68, (1, 97, 2, .null)), (71, (1, 38, 2, .null)), (72, (1, 4, 0, .null)), (75, (1, 41, 2, .null)), (76, (1, 5, 0, .null)), (78, (1, 42, 2, .null)), (79, (1, 6, 0, .null)), (81, (1, 43, 2, .null)), (82, (1, 7, 0, .null)), (84, (1, 44, 2, .null)), (85, (1, 8, 0, .null)), (87, (1, 45, 2, .null)), (88, (1, 9, 0, .null)), (90, (1, 46, 2, .null)), (91, (1, 11, 2, .null))]
def xC0 : List (Nat × Instr × Nat × Nat) := [(0, .new 8, 3, 0), (3, .dup, 1, 0), (4, .invokespecial 50, 3, 0), (7, .astore_n 1, 1, 0), (8, .new 51, 3, 0), (11, .dup, 1, 0), (12, .invokespecial 53, 3, 0), (15, .astore_n 2, 1, 0), (16, .iconst 1, 1, 0), (17, .newarray .long, 2, 0), (19, .astore_n 3, 1, 0), (20, .iconst 0, 1, 0), (21, .istore 4, 2, 0), (23, .iload 4, 2, 0), (25, .aload_n 0, 1, 0), (26, .arraylength, 1, 0), (27, .bipush 6, 2, 0), (29, .isub, 1, 0), (30, .if_icmp .gt 449, 3, 479), (33, .aload_n 0, 1, 0), (34, .iload 4, 2, 0), (36, .iaload, 1, 0), (37, .bipush 15, 2, 0), (39, .iand, 1, 0), (40, .tableswitch 433 0 9 #[56, 132, 160, 176, 189, 229, 269, 297, 337, 377], 56, 0), (96, .aload_n 1, 1, 0), (97, .aload_n 0, 1, 0), (98, .iload 4, 2, 0), (100, .iconst 1, 1, 0), (101, .iadd, 1, 0), (102, .iaload, 1, 0), (103, .aload_n 0, 1, 0), (104, .iload 4, 2, 0), (106, .iconst 2, 1, 0), (107, .iadd, 1, 0), (108, .iaload, 1, 0), (109, .aload_n 0, 1, 0), (110, .iload 4, 2, 0), (112, .iconst 3, 1, 0), (113, .iadd, 1, 0), (114, .iaload, 1, 0), (115, .aload_n 0, 1, 0), (116, .iload 4, 2, 0), (118, .iconst 4, 1, 0), (119, .iadd, 1, 0), (120, .iaload, 1, 0), (121, .aload_n 0, 1, 0), (122, .iload 4, 2, 0), (124, .iconst 5, 1, 0), (125, .iadd, 1, 0), (126, .iaload, 1, 0), (127, .aload_n 3, 1, 0), (128, .invokestatic 54, 3, 0), (131, .istore 5, 2, 0), (133, .aload_n 2, 1, 0), (134, .aload_n 0, 1, 0), (135, .iload 4, 2, 0), (137, .iconst 1, 1, 0), (138, .iadd, 1, 0), (139, .iaload, 1, 0), (140, .aload_n 0, 1, 0), (141, .iload 4, 2, 0), (143, .iconst 2, 1, 0), (144, .iadd, 1, 0), (145, .iaload, 1, 0), (146, .aload_n 0, 1, 0), (147, .iload 4, 2, 0), (149, .iconst 3, 1, 0), (150, .iadd, 1, 0), (151, .iaload, 1, 0), (152, .aload_n 0, 1, 0), (153, .iload 4, 2, 0), (155, .iconst 4, 1, 0), (156, .iadd, 1, 0), (157, .iaload, 1, 0), (158, .aload_n 0, 1, 0), (159, .iload 4, 2, 0), (161, .iconst 5, 1, 0), (162, .iadd, 1, 0), (163, .iaload, 1, 0), (164, .invokevirtual 59, 3, 0), (167, .istore 6, 2, 0), (169, .goto 304, 3, 473), (172, .aload_n 1, 1, 0), (173, .aload_n 0, 1, 0), (174, .iload 4, 2, 0), (176, .iconst 1, 1, 0), (177, .iadd, 1, 0), (178, .iaload, 1, 0), (179, .aload_n 3, 1, 0), (180, .invokestatic 60, 3, 0), (183, .istore 5, 2, 0), (185, .aload_n 2, 1, 0), (186, .aload_n 0, 1, 0), (187, .iload 4, 2, 0), (189, .iconst 1, 1, 0), (190, .iadd, 1, 0), (191, .iaload, 1, 0), (192, .invokevirtual 63, 3, 0), (195, .istore 6, 2, 0), (197, .goto 276, 3, 473), (200, .aload_n 1, 1, 0), (201, .aload_n 3, 1, 0), (202, .invokestatic 64, 3, 0), (205, .istore 5, 2, 0), (207, .aload_n 2, 1, 0), (208, .invokevirtual 67, 3, 0), (211, .istore 6, 2, 0), (213, .goto 260, 3, 473), (216, .aload_n 1, 1, 0), (217, .invokevirtual 68, 3, 0), (220, .pop, 1, 0), (221, .aload_n 2, 1, 0), (222, .invokevirtual 71, 3, 0), (225, .pop, 1, 0), (226, .goto 247, 3, 473), (229, .aload_n 1, 1, 0), (230, .aload_n 0, 1, 0), (231, .iload 4, 2, 0), (233, .iconst 1, 1, 0), (234, .iadd, 1, 0), (235, .iaload, 1, 0), (236, .aload_n 0, 1, 0), (237, .iload 4, 2, 0), (239, .iconst 2, 1, 0), (240, .iadd, 1, 0), (241, .iaload, 1, 0), (242, .aload_n 3, 1, 0), (243, .invokestatic 72, 3, 0), (246, .istore 5, 2, 0), (248, .aload_n 2, 1, 0), (249, .aload_n 0, 1, 0), (250, .iload 4, 2, 0), (252, .iconst 1, 1, 0), (253, .iadd, 1, 0), (254, .iaload, 1, 0), (255, .aload_n 0, 1, 0), (256, .iload 4, 2, 0), (258, .iconst 2, 1, 0), (259, .iadd, 1, 0), (260, .iaload, 1, 0), (261, .invokevirtual 75, 3, 0), (264, .istore 6, 2, 0), (266, .goto 207, 3, 473), (269, .aload_n 1, 1, 0), (270, .aload_n 0, 1, 0), (271, .iload 4, 2, 0), (273, .iconst 1, 1, 0), (274, .iadd, 1, 0), (275, .iaload, 1, 0), (276, .aload_n 0, 1, 0), (277, .iload 4, 2, 0), (279, .iconst 2, 1, 0), (280, .iadd, 1, 0), (281, .iaload, 1, 0), (282, .aload_n 3, 1, 0), (283, .invokestatic 76, 3, 0), (286, .istore 5, 2, 0), (288, .aload_n 2, 1, 0), (289, .aload_n 0, 1, 0), (290, .iload 4, 2, 0), (292, .iconst 1, 1, 0), (293, .iadd, 1, 0), (294, .iaload, 1, 0), (295, .aload_n 0, 1, 0), (296, .iload 4, 2, 0), (298, .iconst 2, 1, 0), (299, .iadd, 1, 0), (300, .iaload, 1, 0), (301, .invokevirtual 78, 3, 0), (304, .istore 6, 2, 0), (306, .goto 167, 3, 473), (309, .aload_n 1, 1, 0), (310, .aload_n 0, 1, 0), (311, .iload 4, 2, 0), (313, .iconst 1, 1, 0), (314, .iadd, 1, 0), (315, .iaload, 1, 0), (316, .aload_n 3, 1, 0), (317, .invokestatic 79, 3, 0), (320, .istore 5, 2, 0), (322, .aload_n 2, 1, 0), (323, .aload_n 0, 1, 0), (324, .iload 4, 2, 0), (326, .iconst 1, 1, 0), (327, .iadd, 1, 0), (328, .iaload, 1, 0), (329, .invokevirtual 81, 3, 0), (332, .lstore 6, 2, 0), (334, .goto 139, 3, 473), (337, .aload_n 1, 1, 0), (338, .aload_n 0, 1, 0), (339, .iload 4, 2, 0), (341, .iconst 1, 1, 0), (342, .iadd, 1, 0), (343, .iaload, 1, 0), (344, .aload_n 0, 1, 0), (345, .iload 4, 2, 0), (347, .iconst 2, 1, 0), (348, .iadd, 1, 0), (349, .iaload, 1, 0), (350, .aload_n 3, 1, 0), (351, .invokestatic 82, 3, 0), (354, .istore 5, 2, 0), (356, .aload_n 2, 1, 0), (357, .aload_n 0, 1, 0), (358, .iload 4, 2, 0), (360, .iconst 1, 1, 0), (361, .iadd, 1, 0), (362, .iaload, 1, 0), (363, .aload_n 0, 1, 0), (364, .iload 4, 2, 0), (366, .iconst 2, 1, 0), (367, .iadd, 1, 0), (368, .iaload, 1, 0), (369, .invokevirtual 84, 3, 0), (372, .istore 6, 2, 0), (374, .goto 99, 3, 473), (377, .aload_n 1, 1, 0), (378, .aload_n 0, 1, 0), (379, .iload 4, 2, 0), (381, .iconst 1, 1, 0), (382, .iadd, 1, 0), (383, .iaload, 1, 0), (384, .aload_n 0, 1, 0), (385, .iload 4, 2, 0), (387, .iconst 2, 1, 0), (388, .iadd, 1, 0), (389, .iaload, 1, 0), (390, .aload_n 3, 1, 0), (391, .invokestatic 85, 3, 0), (394, .istore 5, 2, 0), (396, .aload_n 2, 1, 0), (397, .aload_n 0, 1, 0), (398, .iload 4, 2, 0), (400, .iconst 1, 1, 0), (401, .iadd, 1, 0), (402, .iaload, 1, 0), (403, .aload_n 0, 1, 0), (404, .iload 4, 2, 0), (406, .iconst 2, 1, 0), (407, .iadd, 1, 0), (408, .iaload, 1, 0), (409, .invokevirtual 87, 3, 0), (412, .istore 6, 2, 0), (414, .goto 59, 3, 473), (417, .aload_n 1, 1, 0), (418, .aload_n 0, 1, 0), (419, .iload 4, 2, 0), (421, .iconst 1, 1, 0), (422, .iadd, 1, 0), (423, .iaload, 1, 0), (424, .aload_n 3, 1, 0), (425, .invokestatic 88, 3, 0), (428, .istore 5, 2, 0), (430, .aload_n 2, 1, 0), (431, .aload_n 0, 1, 0), (432, .iload 4, 2, 0), (434, .iconst 1, 1, 0), (435, .iadd, 1, 0), (436, .iaload, 1, 0), (437, .invokevirtual 90, 3, 0), (440, .istore 6, 2, 0), (442, .aload_n 2, 1, 0), (443, .invokevirtual 91, 3, 0), (446, .iload 5, 2, 0), (448, .if_icmp .eq 5, 3, 453), (451, .iconst 0, 1, 0), (452, .ireturn, 1, 0), (453, .iload 5, 2, 0), (455, .ifCond .ne 15, 3, 470), (458, .aload_n 3, 1, 0), (459, .iconst 0, 1, 0), (460, .laload, 1, 0), (461, .iload 6, 2, 0), (463, .i2l, 1, 0), (464, .lcmp, 1, 0), (465, .ifCond .eq 5, 3, 470), (468, .iconst 0, 1, 0), (469, .ireturn, 1, 0), (470, .goto 3, 3, 473), (473, .iinc 4 6, 3, 0), (476, .goto (-453), 3, 23), (479, .iconst 1, 1, 0), (480, .ireturn, 1, 0)]
/-- NotationReaderLaw.law([I)Z -/
def xM0 : ab_M := (⟨"NotationReaderLaw", "law", "([I)Z"⟩, code, 8, some .boolean, 1, true, [], xlk xP0, xC0)
def xP1 : List (Nat × ab_N) := [(7, (1, 94, 2, .null)), (13, (11, 5, 0, .null))]
def xC1 : List (Nat × Instr × Nat × Nat) := [(0, .aload 6, 2, 0), (2, .iconst 0, 1, 0), (3, .aload_n 0, 1, 0), (4, .iload_n 1, 1, 0), (5, .iload_n 2, 1, 0), (6, .iload_n 3, 1, 0), (7, .iload 4, 2, 0), (9, .iload 5, 2, 0), (11, .invokevirtual 7, 3, 0), (14, .i2l, 1, 0), (15, .lastore, 1, 0), (16, .goto 7, 3, 23), (19, .astore 7, 2, 0), (21, .iconst 1, 1, 0), (22, .ireturn, 1, 0), (23, .iconst 0, 1, 0), (24, .ireturn, 1, 0)]
/-- NotationReaderLaw.feed(LNotationReader;IIIII[J)I -/
def xM1 : ab_M := (⟨"NotationReaderLaw", "feed", "(LNotationReader;IIIII[J)I"⟩, method_3_code, 8, some .int, 7, true, [(0, 16, 19, 13)], xlk xP1, xC1)
def xP2 : List (Nat × ab_N) := [(15, (1, 95, 2, .null)), (19, (11, 6, 0, .null))]
def xC2 : List (Nat × Instr × Nat × Nat) := [(0, .aload_n 2, 1, 0), (1, .iconst 0, 1, 0), (2, .aload_n 0, 1, 0), (3, .iload_n 1, 1, 0), (4, .invokevirtual 15, 3, 0), (7, .i2l, 1, 0), (8, .lastore, 1, 0), (9, .goto 6, 3, 15), (12, .astore_n 3, 1, 0), (13, .iconst 1, 1, 0), (14, .ireturn, 1, 0), (15, .iconst 0, 1, 0), (16, .ireturn, 1, 0)]
/-- NotationReaderLaw.end(LNotationReader;I[J)I -/
def xM2 : ab_M := (⟨"NotationReaderLaw", "end", "(LNotationReader;I[J)I"⟩, method_4_code, 4, some .int, 3, true, [(0, 9, 12, 19)], xlk xP2, xC2)
def xP3 : List (Nat × ab_N) := [(21, (1, 96, 2, .null)), (25, (11, 7, 0, .null))]
def xC3 : List (Nat × Instr × Nat × Nat) := [(0, .aload_n 1, 1, 0), (1, .iconst 0, 1, 0), (2, .aload_n 0, 1, 0), (3, .invokevirtual 21, 3, 0), (6, .i2l, 1, 0), (7, .lastore, 1, 0), (8, .goto 6, 3, 14), (11, .astore_n 2, 1, 0), (12, .iconst 1, 1, 0), (13, .ireturn, 1, 0), (14, .iconst 0, 1, 0), (15, .ireturn, 1, 0)]
/-- NotationReaderLaw.read(LNotationReader;[J)I -/
def xM3 : ab_M := (⟨"NotationReaderLaw", "read", "(LNotationReader;[J)I"⟩, method_5_code, 3, some .int, 2, true, [(0, 8, 11, 25)], xlk xP3, xC3)
def xP4 : List (Nat × ab_N) := [(19, (11, 6, 0, .null)), (27, (1, 98, 2, .null))]
def xC4 : List (Nat × Instr × Nat × Nat) := [(0, .aload_n 3, 1, 0), (1, .iconst 0, 1, 0), (2, .aload_n 0, 1, 0), (3, .iload_n 1, 1, 0), (4, .iload_n 2, 1, 0), (5, .invokevirtual 27, 3, 0), (8, .i2l, 1, 0), (9, .lastore, 1, 0), (10, .goto 7, 3, 17), (13, .astore 4, 2, 0), (15, .iconst 1, 1, 0), (16, .ireturn, 1, 0), (17, .iconst 0, 1, 0), (18, .ireturn, 1, 0)]
/-- NotationReaderLaw.node(LNotationReader;II[J)I -/
def xM4 : ab_M := (⟨"NotationReaderLaw", "node", "(LNotationReader;II[J)I"⟩, method_6_code, 5, some .int, 4, true, [(0, 10, 13, 19)], xlk xP4, xC4)
def xP5 : List (Nat × ab_N) := [(19, (11, 6, 0, .null)), (31, (1, 99, 2, .null)), (34, (11, 8, 0, .null))]
def xC5 : List (Nat × Instr × Nat × Nat) := [(0, .aload_n 3, 1, 0), (1, .iconst 0, 1, 0), (2, .aload_n 0, 1, 0), (3, .iload_n 1, 1, 0), (4, .iload_n 2, 1, 0), (5, .invokevirtual 31, 3, 0), (8, .i2l, 1, 0), (9, .lastore, 1, 0), (10, .goto 11, 3, 21), (13, .astore 4, 2, 0), (15, .iconst 1, 1, 0), (16, .ireturn, 1, 0), (17, .astore 4, 2, 0), (19, .iconst 2, 1, 0), (20, .ireturn, 1, 0), (21, .iconst 0, 1, 0), (22, .ireturn, 1, 0)]
/-- NotationReaderLaw.part(LNotationReader;II[J)I -/
def xM5 : ab_M := (⟨"NotationReaderLaw", "part", "(LNotationReader;II[J)I"⟩, method_7_code, 5, some .int, 4, true, [(0, 10, 13, 19), (0, 10, 17, 34)], xlk xP5, xC5)
def xP6 : List (Nat × ab_N) := [(19, (11, 6, 0, .null)), (25, (11, 7, 0, .null)), (36, (1, 100, 2, .null))]
def xC6 : List (Nat × Instr × Nat × Nat) := [(0, .aload_n 2, 1, 0), (1, .iconst 0, 1, 0), (2, .aload_n 0, 1, 0), (3, .iload_n 1, 1, 0), (4, .invokevirtual 36, 3, 0), (7, .lastore, 1, 0), (8, .goto 9, 3, 17), (11, .astore_n 3, 1, 0), (12, .iconst 1, 1, 0), (13, .ireturn, 1, 0), (14, .astore_n 3, 1, 0), (15, .iconst 2, 1, 0), (16, .ireturn, 1, 0), (17, .iconst 0, 1, 0), (18, .ireturn, 1, 0)]
/-- NotationReaderLaw.number(LNotationReader;I[J)I -/
def xM6 : ab_M := (⟨"NotationReaderLaw", "number", "(LNotationReader;I[J)I"⟩, method_8_code, 4, some .int, 3, true, [(0, 8, 11, 19), (0, 8, 14, 25)], xlk xP6, xC6)
def xP7 : List (Nat × ab_N) := [(19, (11, 6, 0, .null)), (34, (11, 8, 0, .null)), (40, (1, 101, 2, .null))]
def xC7 : List (Nat × Instr × Nat × Nat) := [(0, .aload_n 3, 1, 0), (1, .iconst 0, 1, 0), (2, .aload_n 0, 1, 0), (3, .iload_n 1, 1, 0), (4, .iload_n 2, 1, 0), (5, .invokevirtual 40, 3, 0), (8, .i2l, 1, 0), (9, .lastore, 1, 0), (10, .goto 11, 3, 21), (13, .astore 4, 2, 0), (15, .iconst 1, 1, 0), (16, .ireturn, 1, 0), (17, .astore 4, 2, 0), (19, .iconst 2, 1, 0), (20, .ireturn, 1, 0), (21, .iconst 0, 1, 0), (22, .ireturn, 1, 0)]
/-- NotationReaderLaw.unit(LNotationReader;II[J)I -/
def xM7 : ab_M := (⟨"NotationReaderLaw", "unit", "(LNotationReader;II[J)I"⟩, method_9_code, 5, some .int, 4, true, [(0, 10, 13, 19), (0, 10, 17, 34)], xlk xP7, xC7)
def xP8 : List (Nat × ab_N) := [(19, (11, 6, 0, .null)), (25, (11, 7, 0, .null)), (43, (1, 102, 2, .null))]
def xC8 : List (Nat × Instr × Nat × Nat) := [(0, .aload_n 3, 1, 0), (1, .iconst 0, 1, 0), (2, .aload_n 0, 1, 0), (3, .iload_n 1, 1, 0), (4, .iload_n 2, 1, 0), (5, .invokevirtual 43, 3, 0), (8, .ifCond .eq 7, 3, 15), (11, .lconst 1, 1, 0), (12, .goto 4, 3, 16), (15, .lconst 0, 1, 0), (16, .lastore, 1, 0), (17, .goto 11, 3, 28), (20, .astore 4, 2, 0), (22, .iconst 1, 1, 0), (23, .ireturn, 1, 0), (24, .astore 4, 2, 0), (26, .iconst 2, 1, 0), (27, .ireturn, 1, 0), (28, .iconst 0, 1, 0), (29, .ireturn, 1, 0)]
/-- NotationReaderLaw.same(LNotationReader;II[J)I -/
def xM8 : ab_M := (⟨"NotationReaderLaw", "same", "(LNotationReader;II[J)I"⟩, method_10_code, 5, some .int, 4, true, [(0, 17, 20, 19), (0, 17, 24, 25)], xlk xP8, xC8)
def xP9 : List (Nat × ab_N) := [(19, (11, 6, 0, .null)), (47, (1, 103, 2, .null))]
def xC9 : List (Nat × Instr × Nat × Nat) := [(0, .aload_n 2, 1, 0), (1, .iconst 0, 1, 0), (2, .aload_n 0, 1, 0), (3, .iload_n 1, 1, 0), (4, .invokevirtual 47, 3, 0), (7, .i2l, 1, 0), (8, .lastore, 1, 0), (9, .goto 6, 3, 15), (12, .astore_n 3, 1, 0), (13, .iconst 1, 1, 0), (14, .ireturn, 1, 0), (15, .iconst 0, 1, 0), (16, .ireturn, 1, 0)]
/-- NotationReaderLaw.count(LNotationReader;I[J)I -/
def xM9 : ab_M := (⟨"NotationReaderLaw", "count", "(LNotationReader;I[J)I"⟩, method_11_code, 4, some .int, 3, true, [(0, 9, 12, 19)], xlk xP9, xC9)
def xP10 : List (Nat × ab_N) := [(1, (5, 0, 0, .null)), (7, (0, 3, 1, .int 1)), (13, (0, 3, 3, .null)), (17, (6, 3, 0, .null)), (19, (7, 0, 0, .float 14)), (21, (7, 0, 0, .float 15)), (23, (7, 0, 0, .float 16)), (25, (7, 0, 0, .float 17)), (27, (7, 0, 0, .float 18)), (29, (7, 0, 0, .float 19)), (31, (7, 0, 0, .float 20)), (33, (7, 0, 0, .float 21)), (35, (7, 0, 0, .float 22)), (37, (7, 0, 0, .float 23)), (39, (7, 0, 0, .float 24)), (41, (7, 0, 0, .float 25)), (43, (0, 3, 4, .int 1)), (47, (7, 0, 0, .float 26)), (49, (7, 0, 0, .float 27)), (51, (7, 0, 0, .float 28)), (53, (7, 0, 0, .float 29)), (55, (7, 0, 0, .float 30)), (57, (7, 0, 0, .float 31)), (59, (7, 0, 0, .float 32)), (61, (7, 0, 0, .float 33)), (63, (7, 0, 0, .float 34)), (65, (7, 0, 0, .float 35)), (67, (7, 0, 0, .float 36)), (69, (7, 0, 0, .float 37)), (71, (7, 0, 0, .float 38)), (73, (7, 0, 0, .float 39)), (75, (7, 0, 0, .float 40)), (77, (7, 0, 0, .float 41)), (79, (7, 0, 0, .float 42)), (81, (7, 0, 0, .float 43)), (83, (7, 0, 0, .float 44)), (85, (7, 0, 0, .float 45)), (87, (7, 0, 0, .float 46)), (89, (7, 0, 0, .float 47)), (91, (7, 0, 0, .float 48)), (93, (7, 0, 0, .float 49)), (95, (7, 0, 0, .float 50)), (97, (7, 0, 0, .float 3)), (99, (7, 0, 0, .float 4)), (101, (7, 0, 0, .float 5)), (103, (7, 0, 0, .float 51)), (105, (7, 0, 0, .float 52)), (107, (7, 0, 0, .float 53)), (109, (7, 0, 0, .float 54)), (111, (7, 0, 0, .float 55)), (113, (7, 0, 0, .float 56)), (115, (7, 0, 0, .float 57)), (117, (0, 3, 5, .int 1)), (120, (6, 4, 0, .null)), (122, (0, 3, 15, .null)), (126, (0, 3, 16, .null)), (130, (0, 3, 17, .null)), (133, (0, 3, 18, .null)), (136, (0, 3, 19, .null)), (139, (0, 3, 20, .null))]
def xC10 : List (Nat × Instr × Nat × Nat) := [(0, .aload_n 0, 1, 0), (1, .invokespecial 1, 3, 0), (4, .aload_n 0, 1, 0), (5, .sipush 4096, 3, 0), (8, .newarray .byte, 2, 0), (10, .putfield 7, 3, 0), (13, .aload_n 0, 1, 0), (14, .iconst (-1), 1, 0), (15, .putfield 13, 3, 0), (18, .aload_n 0, 1, 0), (19, .bipush 12, 2, 0), (21, .anewarray 17, 3, 0), (24, .dup, 1, 0), (25, .iconst 0, 1, 0), (26, .ldc 19, 2, 0), (28, .aastore, 1, 0), (29, .dup, 1, 0), (30, .iconst 1, 1, 0), (31, .ldc 21, 2, 0), (33, .aastore, 1, 0), (34, .dup, 1, 0), (35, .iconst 2, 1, 0), (36, .ldc 23, 2, 0), (38, .aastore, 1, 0), (39, .dup, 1, 0), (40, .iconst 3, 1, 0), (41, .ldc 25, 2, 0), (43, .aastore, 1, 0), (44, .dup, 1, 0), (45, .iconst 4, 1, 0), (46, .ldc 27, 2, 0), (48, .aastore, 1, 0), (49, .dup, 1, 0), (50, .iconst 5, 1, 0), (51, .ldc 29, 2, 0), (53, .aastore, 1, 0), (54, .dup, 1, 0), (55, .bipush 6, 2, 0), (57, .ldc 31, 2, 0), (59, .aastore, 1, 0), (60, .dup, 1, 0), (61, .bipush 7, 2, 0), (63, .ldc 33, 2, 0), (65, .aastore, 1, 0), (66, .dup, 1, 0), (67, .bipush 8, 2, 0), (69, .ldc 35, 2, 0), (71, .aastore, 1, 0), (72, .dup, 1, 0), (73, .bipush 9, 2, 0), (75, .ldc 37, 2, 0), (77, .aastore, 1, 0), (78, .dup, 1, 0), (79, .bipush 10, 2, 0), (81, .ldc 39, 2, 0), (83, .aastore, 1, 0), (84, .dup, 1, 0), (85, .bipush 11, 2, 0), (87, .ldc 41, 2, 0), (89, .aastore, 1, 0), (90, .putfield 43, 3, 0), (93, .aload_n 0, 1, 0), (94, .bipush 35, 2, 0), (96, .anewarray 17, 3, 0), (99, .dup, 1, 0), (100, .iconst 0, 1, 0), (101, .ldc 47, 2, 0), (103, .aastore, 1, 0), (104, .dup, 1, 0), (105, .iconst 1, 1, 0), (106, .ldc 49, 2, 0), (108, .aastore, 1, 0), (109, .dup, 1, 0), (110, .iconst 2, 1, 0), (111, .ldc 51, 2, 0), (113, .aastore, 1, 0), (114, .dup, 1, 0), (115, .iconst 3, 1, 0), (116, .ldc 53, 2, 0), (118, .aastore, 1, 0), (119, .dup, 1, 0), (120, .iconst 4, 1, 0), (121, .ldc 55, 2, 0), (123, .aastore, 1, 0), (124, .dup, 1, 0), (125, .iconst 5, 1, 0), (126, .ldc 57, 2, 0), (128, .aastore, 1, 0), (129, .dup, 1, 0), (130, .bipush 6, 2, 0), (132, .ldc 59, 2, 0), (134, .aastore, 1, 0), (135, .dup, 1, 0), (136, .bipush 7, 2, 0), (138, .ldc 61, 2, 0), (140, .aastore, 1, 0), (141, .dup, 1, 0), (142, .bipush 8, 2, 0), (144, .ldc 63, 2, 0), (146, .aastore, 1, 0), (147, .dup, 1, 0), (148, .bipush 9, 2, 0), (150, .ldc 65, 2, 0), (152, .aastore, 1, 0), (153, .dup, 1, 0), (154, .bipush 10, 2, 0), (156, .ldc 67, 2, 0), (158, .aastore, 1, 0), (159, .dup, 1, 0), (160, .bipush 11, 2, 0), (162, .ldc 69, 2, 0), (164, .aastore, 1, 0), (165, .dup, 1, 0), (166, .bipush 12, 2, 0), (168, .ldc 71, 2, 0), (170, .aastore, 1, 0), (171, .dup, 1, 0), (172, .bipush 13, 2, 0), (174, .ldc 73, 2, 0), (176, .aastore, 1, 0), (177, .dup, 1, 0), (178, .bipush 14, 2, 0), (180, .ldc 75, 2, 0), (182, .aastore, 1, 0), (183, .dup, 1, 0), (184, .bipush 15, 2, 0), (186, .ldc 77, 2, 0), (188, .aastore, 1, 0), (189, .dup, 1, 0), (190, .bipush 16, 2, 0), (192, .ldc 79, 2, 0), (194, .aastore, 1, 0), (195, .dup, 1, 0), (196, .bipush 17, 2, 0), (198, .ldc 81, 2, 0), (200, .aastore, 1, 0), (201, .dup, 1, 0), (202, .bipush 18, 2, 0), (204, .ldc 83, 2, 0), (206, .aastore, 1, 0), (207, .dup, 1, 0), (208, .bipush 19, 2, 0), (210, .ldc 85, 2, 0), (212, .aastore, 1, 0), (213, .dup, 1, 0), (214, .bipush 20, 2, 0), (216, .ldc 87, 2, 0), (218, .aastore, 1, 0), (219, .dup, 1, 0), (220, .bipush 21, 2, 0), (222, .ldc 89, 2, 0), (224, .aastore, 1, 0), (225, .dup, 1, 0), (226, .bipush 22, 2, 0), (228, .ldc 91, 2, 0), (230, .aastore, 1, 0), (231, .dup, 1, 0), (232, .bipush 23, 2, 0), (234, .ldc 93, 2, 0), (236, .aastore, 1, 0), (237, .dup, 1, 0), (238, .bipush 24, 2, 0), (240, .ldc 95, 2, 0), (242, .aastore, 1, 0), (243, .dup, 1, 0), (244, .bipush 25, 2, 0), (246, .ldc 97, 2, 0), (248, .aastore, 1, 0), (249, .dup, 1, 0), (250, .bipush 26, 2, 0), (252, .ldc 99, 2, 0), (254, .aastore, 1, 0), (255, .dup, 1, 0), (256, .bipush 27, 2, 0), (258, .ldc 101, 2, 0), (260, .aastore, 1, 0), (261, .dup, 1, 0), (262, .bipush 28, 2, 0), (264, .ldc 103, 2, 0), (266, .aastore, 1, 0), (267, .dup, 1, 0), (268, .bipush 29, 2, 0), (270, .ldc 105, 2, 0), (272, .aastore, 1, 0), (273, .dup, 1, 0), (274, .bipush 30, 2, 0), (276, .ldc 107, 2, 0), (278, .aastore, 1, 0), (279, .dup, 1, 0), (280, .bipush 31, 2, 0), (282, .ldc 109, 2, 0), (284, .aastore, 1, 0), (285, .dup, 1, 0), (286, .bipush 32, 2, 0), (288, .ldc 111, 2, 0), (290, .aastore, 1, 0), (291, .dup, 1, 0), (292, .bipush 33, 2, 0), (294, .ldc 113, 2, 0), (296, .aastore, 1, 0), (297, .dup, 1, 0), (298, .bipush 34, 2, 0), (300, .ldc 115, 2, 0), (302, .aastore, 1, 0), (303, .putfield 117, 3, 0), (306, .aload_n 0, 1, 0), (307, .bipush 64, 2, 0), (309, .anewarray 120, 3, 0), (312, .putfield 122, 3, 0), (315, .aload_n 0, 1, 0), (316, .bipush 64, 2, 0), (318, .newarray .int, 2, 0), (320, .putfield 126, 3, 0), (323, .aload_n 0, 1, 0), (324, .bipush 64, 2, 0), (326, .newarray .int, 2, 0), (328, .putfield 130, 3, 0), (331, .aload_n 0, 1, 0), (332, .bipush 64, 2, 0), (334, .newarray .int, 2, 0), (336, .putfield 133, 3, 0), (339, .aload_n 0, 1, 0), (340, .bipush 64, 2, 0), (342, .newarray .int, 2, 0), (344, .putfield 136, 3, 0), (347, .aload_n 0, 1, 0), (348, .bipush 64, 2, 0), (350, .anewarray 17, 3, 0), (353, .putfield 139, 3, 0), (356, .return_, 1, 0)]
/-- NotationReaderModel.<init>()V -/
def xM10 : ab_M := (⟨"NotationReaderModel", "<init>", "()V"⟩, prog_6_method_1_code, 1, none, 0, false, [], xlk xP10, xC10)
def xP11 : List (Nat × ab_N) := [(142, (0, 3, 0, .null))]
def xC11 : List (Nat × Instr × Nat × Nat) := [(0, .aload_n 0, 1, 0), (1, .getfield 142, 3, 0), (4, .ireturn, 1, 0)]
/-- NotationReaderModel.thrown()I -/
def xM11 : ab_M := (⟨"NotationReaderModel", "thrown", "()I"⟩, prog_6_method_2_code, 1, some .int, 0, false, [], xlk xP11, xC11)
def xP12 : List (Nat × ab_N) := [(142, (0, 3, 0, .null))]
def xC12 : List (Nat × Instr × Nat × Nat) := [(0, .aload_n 0, 1, 0), (1, .iload_n 1, 1, 0), (2, .putfield 142, 3, 0), (5, .iconst 0, 1, 0), (6, .ireturn, 1, 0)]
/-- NotationReaderModel.fail(I)I -/
def xM12 : ab_M := (⟨"NotationReaderModel", "fail", "(I)I"⟩, prog_6_method_3_code, 2, some .int, 1, false, [], xlk xP12, xC12)
def xP13 : List (Nat × ab_N) := [(7, (0, 3, 1, .int 1)), (145, (0, 3, 2, .null))]
def xC13 : List (Nat × Instr × Nat × Nat) := [(0, .iload_n 1, 1, 0), (1, .aload_n 0, 1, 0), (2, .getfield 145, 3, 0), (5, .if_icmp .ge 16, 3, 21), (8, .aload_n 0, 1, 0), (9, .getfield 7, 3, 0), (12, .iload_n 1, 1, 0), (13, .baload, 1, 0), (14, .sipush 255, 3, 0), (17, .iand, 1, 0), (18, .goto 4, 3, 22), (21, .iconst (-1), 1, 0), (22, .ireturn, 1, 0)]
/-- NotationReaderModel.byteAt(I)I -/
def xM13 : ab_M := (⟨"NotationReaderModel", "byteAt", "(I)I"⟩, prog_6_method_4_code, 2, some .int, 1, false, [], xlk xP13, xC13)
def xP14 : List (Nat × ab_N) := []
def xC14 : List (Nat × Instr × Nat × Nat) := [(0, .iload_n 1, 1, 0), (1, .bipush 9, 2, 0), (3, .if_icmp .eq 21, 3, 24), (6, .iload_n 1, 1, 0), (7, .bipush 10, 2, 0), (9, .if_icmp .eq 15, 3, 24), (12, .iload_n 1, 1, 0), (13, .bipush 13, 2, 0), (15, .if_icmp .eq 9, 3, 24), (18, .iload_n 1, 1, 0), (19, .bipush 32, 2, 0), (21, .if_icmp .ne 7, 3, 28), (24, .iconst 1, 1, 0), (25, .goto 4, 3, 29), (28, .iconst 0, 1, 0), (29, .ireturn, 1, 0)]
/-- NotationReaderModel.blank(I)Z -/
def xM14 : ab_M := (⟨"NotationReaderModel", "blank", "(I)Z"⟩, prog_6_method_5_code, 2, some .boolean, 1, false, [], xlk xP14, xC14)
def xP15 : List (Nat × ab_N) := []
def xC15 : List (Nat × Instr × Nat × Nat) := [(0, .iload_n 1, 1, 0), (1, .bipush 48, 2, 0), (3, .if_icmp .lt 13, 3, 16), (6, .iload_n 1, 1, 0), (7, .bipush 57, 2, 0), (9, .if_icmp .gt 7, 3, 16), (12, .iconst 1, 1, 0), (13, .goto 4, 3, 17), (16, .iconst 0, 1, 0), (17, .ireturn, 1, 0)]
/-- NotationReaderModel.digit(I)Z -/
def xM15 : ab_M := (⟨"NotationReaderModel", "digit", "(I)Z"⟩, prog_6_method_6_code, 2, some .boolean, 1, false, [], xlk xP15, xC15)
def xP16 : List (Nat × ab_N) := []
def xC16 : List (Nat × Instr × Nat × Nat) := [(0, .iload_n 1, 1, 0), (1, .bipush 97, 2, 0), (3, .if_icmp .lt 9, 3, 12), (6, .iload_n 1, 1, 0), (7, .bipush 122, 2, 0), (9, .if_icmp .le 15, 3, 24), (12, .iload_n 1, 1, 0), (13, .bipush 65, 2, 0), (15, .if_icmp .lt 13, 3, 28), (18, .iload_n 1, 1, 0), (19, .bipush 90, 2, 0), (21, .if_icmp .gt 7, 3, 28), (24, .iconst 1, 1, 0), (25, .goto 4, 3, 29), (28, .iconst 0, 1, 0), (29, .ireturn, 1, 0)]
/-- NotationReaderModel.letter(I)Z -/
def xM16 : ab_M := (⟨"NotationReaderModel", "letter", "(I)Z"⟩, prog_6_method_7_code, 2, some .boolean, 1, false, [], xlk xP16, xC16)
def xP17 : List (Nat × ab_N) := [(145, (0, 3, 2, .null)), (148, (0, 3, 11, .null)), (151, (1, 13, 2, .null)), (155, (1, 14, 2, .null))]
def xC17 : List (Nat × Instr × Nat × Nat) := [(0, .aload_n 0, 1, 0), (1, .getfield 148, 3, 0), (4, .aload_n 0, 1, 0), (5, .getfield 145, 3, 0), (8, .if_icmp .ge 176, 3, 184), (11, .aload_n 0, 1, 0), (12, .aload_n 0, 1, 0), (13, .aload_n 0, 1, 0), (14, .getfield 148, 3, 0), (17, .invokevirtual 151, 3, 0), (20, .invokevirtual 155, 3, 0), (23, .ifCond .eq 16, 3, 39), (26, .aload_n 0, 1, 0), (27, .dup, 1, 0), (28, .getfield 148, 3, 0), (31, .iconst 1, 1, 0), (32, .iadd, 1, 0), (33, .putfield 148, 3, 0), (36, .goto (-36), 3, 0), (39, .aload_n 0, 1, 0), (40, .aload_n 0, 1, 0), (41, .getfield 148, 3, 0), (44, .invokevirtual 151, 3, 0), (47, .bipush 45, 2, 0), (49, .if_icmp .ne 134, 3, 183), (52, .aload_n 0, 1, 0), (53, .aload_n 0, 1, 0), (54, .getfield 148, 3, 0), (57, .iconst 1, 1, 0), (58, .iadd, 1, 0), (59, .invokevirtual 151, 3, 0), (62, .bipush 45, 2, 0), (64, .if_icmp .ne 119, 3, 183), (67, .aload_n 0, 1, 0), (68, .dup, 1, 0), (69, .getfield 148, 3, 0), (72, .iconst 2, 1, 0), (73, .iadd, 1, 0), (74, .putfield 148, 3, 0), (77, .aload_n 0, 1, 0), (78, .getfield 148, 3, 0), (81, .aload_n 0, 1, 0), (82, .getfield 145, 3, 0), (85, .if_icmp .ge 57, 3, 142), (88, .aload_n 0, 1, 0), (89, .aload_n 0, 1, 0), (90, .getfield 148, 3, 0), (93, .invokevirtual 151, 3, 0), (96, .bipush 10, 2, 0), (98, .if_icmp .eq 44, 3, 142), (101, .aload_n 0, 1, 0), (102, .aload_n 0, 1, 0), (103, .getfield 148, 3, 0), (106, .invokevirtual 151, 3, 0), (109, .bipush 45, 2, 0), (111, .if_icmp .ne 18, 3, 129), (114, .aload_n 0, 1, 0), (115, .aload_n 0, 1, 0), (116, .getfield 148, 3, 0), (119, .iconst 1, 1, 0), (120, .iadd, 1, 0), (121, .invokevirtual 151, 3, 0), (124, .bipush 45, 2, 0), (126, .if_icmp .eq 16, 3, 142), (129, .aload_n 0, 1, 0), (130, .dup, 1, 0), (131, .getfield 148, 3, 0), (134, .iconst 1, 1, 0), (135, .iadd, 1, 0), (136, .putfield 148, 3, 0), (139, .goto (-62), 3, 77), (142, .aload_n 0, 1, 0), (143, .getfield 148, 3, 0), (146, .aload_n 0, 1, 0), (147, .getfield 145, 3, 0), (150, .if_icmp .ge (-150), 3, 0), (153, .aload_n 0, 1, 0), (154, .dup, 1, 0), (155, .getfield 148, 3, 0), (158, .aload_n 0, 1, 0), (159, .aload_n 0, 1, 0), (160, .getfield 148, 3, 0), (163, .invokevirtual 151, 3, 0), (166, .bipush 10, 2, 0), (168, .if_icmp .ne 7, 3, 175), (171, .iconst 1, 1, 0), (172, .goto 4, 3, 176), (175, .iconst 2, 1, 0), (176, .iadd, 1, 0), (177, .putfield 148, 3, 0), (180, .goto (-180), 3, 0), (183, .return_, 1, 0), (184, .return_, 1, 0)]
/-- NotationReaderModel.skip()V -/
def xM17 : ab_M := (⟨"NotationReaderModel", "skip", "()V"⟩, prog_6_method_8_code, 1, none, 0, false, [], xlk xP17, xC17)
def xP18 : List (Nat × ab_N) := [(151, (1, 13, 2, .null)), (159, (2, 12, 0, .null)), (161, (1, 82, 0, .null)), (162, (1, 83, 2, .null)), (166, (1, 84, 2, .null))]
def xC18 : List (Nat × Instr × Nat × Nat) := [(0, .new 159, 3, 0), (3, .dup, 1, 0), (4, .invokespecial 161, 3, 0), (7, .astore_n 3, 1, 0), (8, .iload_n 1, 1, 0), (9, .istore 4, 2, 0), (11, .iload 4, 2, 0), (13, .iload_n 2, 1, 0), (14, .if_icmp .ge 21, 3, 35), (17, .aload_n 3, 1, 0), (18, .aload_n 0, 1, 0), (19, .iload 4, 2, 0), (21, .invokevirtual 151, 3, 0), (24, .i2c, 1, 0), (25, .invokevirtual 162, 3, 0), (28, .pop, 1, 0), (29, .iinc 4 1, 3, 0), (32, .goto (-21), 3, 11), (35, .aload_n 3, 1, 0), (36, .invokevirtual 166, 3, 0), (39, .areturn, 1, 0)]
/-- NotationReaderModel.text(II)Ljava/lang/String; -/
def xM18 : ab_M := (⟨"NotationReaderModel", "text", "(II)Ljava/lang/String;"⟩, prog_6_method_9_code, 5, some (.object "java/lang/String"), 2, false, [], xlk xP18, xC18)
def xP19 : List (Nat × ab_N) := [(43, (0, 3, 4, .int 1)), (145, (0, 3, 2, .null)), (148, (0, 3, 11, .null)), (151, (1, 13, 2, .null)), (170, (1, 17, 2, .null)), (173, (0, 3, 7, .null)), (176, (0, 3, 6, .null)), (179, (1, 16, 2, .null)), (182, (1, 20, 2, .null)), (185, (1, 15, 2, .null)), (188, (1, 21, 2, .null)), (191, (1, 22, 2, .null)), (194, (1, 23, 2, .null)), (197, (1, 71, 2, .null)), (201, (1, 74, 2, .null)), (205, (0, 3, 10, .null)), (209, (0, 3, 8, .null))]
def xC19 : List (Nat × Instr × Nat × Nat) := [(0, .aload_n 0, 1, 0), (1, .invokevirtual 170, 3, 0), (4, .aload_n 0, 1, 0), (5, .aload_n 0, 1, 0), (6, .getfield 148, 3, 0), (9, .putfield 173, 3, 0), (12, .aload_n 0, 1, 0), (13, .getfield 148, 3, 0), (16, .aload_n 0, 1, 0), (17, .getfield 145, 3, 0), (20, .if_icmp .lt 25, 3, 45), (23, .aload_n 0, 1, 0), (24, .aload_n 0, 1, 0), (25, .getfield 145, 3, 0), (28, .putfield 148, 3, 0), (31, .aload_n 0, 1, 0), (32, .aload_n 0, 1, 0), (33, .getfield 145, 3, 0), (36, .putfield 173, 3, 0), (39, .aload_n 0, 1, 0), (40, .iconst 0, 1, 0), (41, .putfield 176, 3, 0), (44, .return_, 1, 0), (45, .aload_n 0, 1, 0), (46, .aload_n 0, 1, 0), (47, .getfield 148, 3, 0), (50, .invokevirtual 151, 3, 0), (53, .istore_n 1, 1, 0), (54, .aload_n 0, 1, 0), (55, .iload_n 1, 1, 0), (56, .invokevirtual 179, 3, 0), (59, .ifCond .eq 10, 3, 69), (62, .aload_n 0, 1, 0), (63, .invokevirtual 182, 3, 0), (66, .goto 165, 3, 231), (69, .aload_n 0, 1, 0), (70, .iload_n 1, 1, 0), (71, .invokevirtual 185, 3, 0), (74, .ifCond .eq 10, 3, 84), (77, .aload_n 0, 1, 0), (78, .invokevirtual 188, 3, 0), (81, .goto 150, 3, 231), (84, .iload_n 1, 1, 0), (85, .bipush 34, 2, 0), (87, .if_icmp .ne 10, 3, 97), (90, .aload_n 0, 1, 0), (91, .invokevirtual 191, 3, 0), (94, .goto 137, 3, 231), (97, .iload_n 1, 1, 0), (98, .bipush 39, 2, 0), (100, .if_icmp .ne 10, 3, 110), (103, .aload_n 0, 1, 0), (104, .invokevirtual 194, 3, 0), (107, .goto 124, 3, 231), (110, .aload_n 0, 1, 0), (111, .iconst 1, 1, 0), (112, .putfield 176, 3, 0), (115, .iconst 0, 1, 0), (116, .istore_n 2, 1, 0), (117, .iload_n 2, 1, 0), (118, .aload_n 0, 1, 0), (119, .getfield 43, 3, 0), (122, .arraylength, 1, 0), (123, .if_icmp .ge 108, 3, 231), (126, .aload_n 0, 1, 0), (127, .getfield 176, 3, 0), (130, .iconst 1, 1, 0), (131, .if_icmp .ne 100, 3, 231), (134, .iconst 1, 1, 0), (135, .istore_n 3, 1, 0), (136, .iconst 0, 1, 0), (137, .istore 4, 2, 0), (139, .iload 4, 2, 0), (141, .aload_n 0, 1, 0), (142, .getfield 43, 3, 0), (145, .iload_n 2, 1, 0), (146, .aaload, 1, 0), (147, .invokevirtual 197, 3, 0), (150, .if_icmp .ge 36, 3, 186), (153, .aload_n 0, 1, 0), (154, .aload_n 0, 1, 0), (155, .getfield 148, 3, 0), (158, .iload 4, 2, 0), (160, .iadd, 1, 0), (161, .invokevirtual 151, 3, 0), (164, .aload_n 0, 1, 0), (165, .getfield 43, 3, 0), (168, .iload_n 2, 1, 0), (169, .aaload, 1, 0), (170, .iload 4, 2, 0), (172, .invokevirtual 201, 3, 0), (175, .if_icmp .eq 5, 3, 180), (178, .iconst 0, 1, 0), (179, .istore_n 3, 1, 0), (180, .iinc 4 1, 3, 0), (183, .goto (-44), 3, 139), (186, .iload_n 3, 1, 0), (187, .ifCond .ne 6, 3, 193), (190, .goto 35, 3, 225), (193, .aload_n 0, 1, 0), (194, .bipush 9, 2, 0), (196, .putfield 176, 3, 0), (199, .aload_n 0, 1, 0), (200, .aload_n 0, 1, 0), (201, .getfield 43, 3, 0), (204, .iload_n 2, 1, 0), (205, .aaload, 1, 0), (206, .putfield 205, 3, 0), (209, .aload_n 0, 1, 0), (210, .dup, 1, 0), (211, .getfield 148, 3, 0), (214, .aload_n 0, 1, 0), (215, .getfield 205, 3, 0), (218, .invokevirtual 197, 3, 0), (221, .iadd, 1, 0), (222, .putfield 148, 3, 0), (225, .iinc 2 1, 3, 0), (228, .goto (-111), 3, 117), (231, .aload_n 0, 1, 0), (232, .aload_n 0, 1, 0), (233, .getfield 148, 3, 0), (236, .putfield 209, 3, 0), (239, .return_, 1, 0)]
/-- NotationReaderModel.advance()V -/
def xM19 : ab_M := (⟨"NotationReaderModel", "advance", "()V"⟩, prog_6_method_10_code, 5, none, 0, false, [], xlk xP19, xC19)
def xP20 : List (Nat × ab_N) := [(117, (0, 3, 5, .int 1)), (148, (0, 3, 11, .null)), (151, (1, 13, 2, .null)), (173, (0, 3, 7, .null)), (176, (0, 3, 6, .null)), (179, (1, 16, 2, .null)), (185, (1, 15, 2, .null)), (205, (0, 3, 10, .null)), (212, (1, 18, 2, .null)), (216, (1, 76, 2, .null))]
def xC20 : List (Nat × Instr × Nat × Nat) := [(0, .aload_n 0, 1, 0), (1, .aload_n 0, 1, 0), (2, .aload_n 0, 1, 0), (3, .getfield 148, 3, 0), (6, .invokevirtual 151, 3, 0), (9, .invokevirtual 179, 3, 0), (12, .ifCond .ne 65, 3, 77), (15, .aload_n 0, 1, 0), (16, .aload_n 0, 1, 0), (17, .aload_n 0, 1, 0), (18, .getfield 148, 3, 0), (21, .invokevirtual 151, 3, 0), (24, .invokevirtual 185, 3, 0), (27, .ifCond .ne 50, 3, 77), (30, .aload_n 0, 1, 0), (31, .aload_n 0, 1, 0), (32, .getfield 148, 3, 0), (35, .invokevirtual 151, 3, 0), (38, .bipush 45, 2, 0), (40, .if_icmp .ne 50, 3, 90), (43, .aload_n 0, 1, 0), (44, .aload_n 0, 1, 0), (45, .aload_n 0, 1, 0), (46, .getfield 148, 3, 0), (49, .iconst 1, 1, 0), (50, .iadd, 1, 0), (51, .invokevirtual 151, 3, 0), (54, .invokevirtual 179, 3, 0), (57, .ifCond .ne 20, 3, 77), (60, .aload_n 0, 1, 0), (61, .aload_n 0, 1, 0), (62, .aload_n 0, 1, 0), (63, .getfield 148, 3, 0), (66, .iconst 1, 1, 0), (67, .iadd, 1, 0), (68, .invokevirtual 151, 3, 0), (71, .invokevirtual 185, 3, 0), (74, .ifCond .eq 16, 3, 90), (77, .aload_n 0, 1, 0), (78, .dup, 1, 0), (79, .getfield 148, 3, 0), (82, .iconst 1, 1, 0), (83, .iadd, 1, 0), (84, .putfield 148, 3, 0), (87, .goto (-87), 3, 0), (90, .aload_n 0, 1, 0), (91, .aload_n 0, 1, 0), (92, .aload_n 0, 1, 0), (93, .getfield 173, 3, 0), (96, .aload_n 0, 1, 0), (97, .getfield 148, 3, 0), (100, .invokevirtual 212, 3, 0), (103, .putfield 205, 3, 0), (106, .aload_n 0, 1, 0), (107, .aload_n 0, 1, 0), (108, .aload_n 0, 1, 0), (109, .getfield 173, 3, 0), (112, .invokevirtual 151, 3, 0), (115, .bipush 97, 2, 0), (117, .if_icmp .lt 7, 3, 124), (120, .iconst 4, 1, 0), (121, .goto 4, 3, 125), (124, .iconst 3, 1, 0), (125, .putfield 176, 3, 0), (128, .aload_n 0, 1, 0), (129, .getfield 117, 3, 0), (132, .astore_n 1, 1, 0), (133, .aload_n 1, 1, 0), (134, .arraylength, 1, 0), (135, .istore_n 2, 1, 0), (136, .iconst 0, 1, 0), (137, .istore_n 3, 1, 0), (138, .iload_n 3, 1, 0), (139, .iload_n 2, 1, 0), (140, .if_icmp .ge 31, 3, 171), (143, .aload_n 1, 1, 0), (144, .iload_n 3, 1, 0), (145, .aaload, 1, 0), (146, .astore 4, 2, 0), (148, .aload 4, 2, 0), (150, .aload_n 0, 1, 0), (151, .getfield 205, 3, 0), (154, .invokevirtual 216, 3, 0), (157, .ifCond .eq 8, 3, 165), (160, .aload_n 0, 1, 0), (161, .iconst 2, 1, 0), (162, .putfield 176, 3, 0), (165, .iinc 3 1, 3, 0), (168, .goto (-30), 3, 138), (171, .return_, 1, 0)]
/-- NotationReaderModel.words()V -/
def xM20 : ab_M := (⟨"NotationReaderModel", "words", "()V"⟩, prog_6_method_11_code, 5, none, 0, false, [], xlk xP20, xC20)
def xP21 : List (Nat × ab_N) := [(148, (0, 3, 11, .null)), (151, (1, 13, 2, .null)), (173, (0, 3, 7, .null)), (176, (0, 3, 6, .null)), (185, (1, 15, 2, .null)), (220, (0, 3, 9, .null)), (224, (3, 0, 0, .long 9223372036854775807)), (226, (3, 0, 0, .long 10))]
def xC21 : List (Nat × Instr × Nat × Nat) := [(0, .aload_n 0, 1, 0), (1, .iconst 5, 1, 0), (2, .putfield 176, 3, 0), (5, .aload_n 0, 1, 0), (6, .lconst 0, 1, 0), (7, .putfield 220, 3, 0), (10, .aload_n 0, 1, 0), (11, .aload_n 0, 1, 0), (12, .aload_n 0, 1, 0), (13, .getfield 148, 3, 0), (16, .invokevirtual 151, 3, 0), (19, .invokevirtual 185, 3, 0), (22, .ifCond .eq 66, 3, 88), (25, .aload_n 0, 1, 0), (26, .aload_n 0, 1, 0), (27, .getfield 148, 3, 0), (30, .invokevirtual 151, 3, 0), (33, .bipush 48, 2, 0), (35, .isub, 1, 0), (36, .istore_n 1, 1, 0), (37, .aload_n 0, 1, 0), (38, .getfield 220, 3, 0), (41, .ldc2_w 224, 3, 0), (44, .iload_n 1, 1, 0), (45, .i2l, 1, 0), (46, .lsub, 1, 0), (47, .ldc2_w 226, 3, 0), (50, .ldiv, 1, 0), (51, .lcmp, 1, 0), (52, .ifCond .le 8, 3, 60), (55, .aload_n 0, 1, 0), (56, .iconst 1, 1, 0), (57, .putfield 176, 3, 0), (60, .aload_n 0, 1, 0), (61, .ldc2_w 226, 3, 0), (64, .aload_n 0, 1, 0), (65, .getfield 220, 3, 0), (68, .lmul, 1, 0), (69, .iload_n 1, 1, 0), (70, .i2l, 1, 0), (71, .ladd, 1, 0), (72, .putfield 220, 3, 0), (75, .aload_n 0, 1, 0), (76, .dup, 1, 0), (77, .getfield 148, 3, 0), (80, .iconst 1, 1, 0), (81, .iadd, 1, 0), (82, .putfield 148, 3, 0), (85, .goto (-75), 3, 10), (88, .aload_n 0, 1, 0), (89, .aload_n 0, 1, 0), (90, .getfield 173, 3, 0), (93, .invokevirtual 151, 3, 0), (96, .bipush 48, 2, 0), (98, .if_icmp .ne 21, 3, 119), (101, .aload_n 0, 1, 0), (102, .getfield 148, 3, 0), (105, .aload_n 0, 1, 0), (106, .getfield 173, 3, 0), (109, .iconst 1, 1, 0), (110, .iadd, 1, 0), (111, .if_icmp .le 8, 3, 119), (114, .aload_n 0, 1, 0), (115, .iconst 1, 1, 0), (116, .putfield 176, 3, 0), (119, .return_, 1, 0)]
/-- NotationReaderModel.numbers()V -/
def xM21 : ab_M := (⟨"NotationReaderModel", "numbers", "()V"⟩, prog_6_method_12_code, 2, none, 0, false, [], xlk xP21, xC21)
def xP22 : List (Nat × ab_N) := [(148, (0, 3, 11, .null)), (151, (1, 13, 2, .null)), (159, (2, 12, 0, .null)), (161, (1, 82, 0, .null)), (162, (1, 83, 2, .null)), (166, (1, 84, 2, .null)), (176, (0, 3, 6, .null)), (205, (0, 3, 10, .null))]
def xC22 : List (Nat × Instr × Nat × Nat) := [(0, .aload_n 0, 1, 0), (1, .bipush 6, 2, 0), (3, .putfield 176, 3, 0), (6, .new 159, 3, 0), (9, .dup, 1, 0), (10, .invokespecial 161, 3, 0), (13, .astore_n 1, 1, 0), (14, .aload_n 0, 1, 0), (15, .dup, 1, 0), (16, .getfield 148, 3, 0), (19, .iconst 1, 1, 0), (20, .iadd, 1, 0), (21, .putfield 148, 3, 0), (24, .aload_n 0, 1, 0), (25, .aload_n 0, 1, 0), (26, .getfield 148, 3, 0), (29, .invokevirtual 151, 3, 0), (32, .istore_n 2, 1, 0), (33, .iload_n 2, 1, 0), (34, .ifCond .le 9, 3, 43), (37, .iload_n 2, 1, 0), (38, .bipush 127, 2, 0), (40, .if_icmp .le 9, 3, 49), (43, .aload_n 0, 1, 0), (44, .iconst 1, 1, 0), (45, .putfield 176, 3, 0), (48, .return_, 1, 0), (49, .aload_n 0, 1, 0), (50, .dup, 1, 0), (51, .getfield 148, 3, 0), (54, .iconst 1, 1, 0), (55, .iadd, 1, 0), (56, .putfield 148, 3, 0), (59, .iload_n 2, 1, 0), (60, .bipush 34, 2, 0), (62, .if_icmp .ne 29, 3, 91), (65, .aload_n 0, 1, 0), (66, .aload_n 0, 1, 0), (67, .getfield 148, 3, 0), (70, .invokevirtual 151, 3, 0), (73, .bipush 34, 2, 0), (75, .if_icmp .eq 6, 3, 81), (78, .goto 23, 3, 101), (81, .aload_n 0, 1, 0), (82, .dup, 1, 0), (83, .getfield 148, 3, 0), (86, .iconst 1, 1, 0), (87, .iadd, 1, 0), (88, .putfield 148, 3, 0), (91, .aload_n 1, 1, 0), (92, .iload_n 2, 1, 0), (93, .i2c, 1, 0), (94, .invokevirtual 162, 3, 0), (97, .pop, 1, 0), (98, .goto (-74), 3, 24), (101, .aload_n 0, 1, 0), (102, .aload_n 1, 1, 0), (103, .invokevirtual 166, 3, 0), (106, .putfield 205, 3, 0), (109, .return_, 1, 0)]
/-- NotationReaderModel.strings()V -/
def xM22 : ab_M := (⟨"NotationReaderModel", "strings", "()V"⟩, prog_6_method_13_code, 3, none, 0, false, [], xlk xP22, xC22)
def xP23 : List (Nat × ab_N) := [(148, (0, 3, 11, .null)), (151, (1, 13, 2, .null)), (155, (1, 14, 2, .null)), (159, (2, 12, 0, .null)), (161, (1, 82, 0, .null)), (162, (1, 83, 2, .null)), (166, (1, 84, 2, .null)), (176, (0, 3, 6, .null)), (185, (1, 15, 2, .null)), (205, (0, 3, 10, .null))]
def xC23 : List (Nat × Instr × Nat × Nat) := [(0, .new 159, 3, 0), (3, .dup, 1, 0), (4, .invokespecial 161, 3, 0), (7, .astore_n 1, 1, 0), (8, .iconst 1, 1, 0), (9, .istore_n 2, 1, 0), (10, .aload_n 0, 1, 0), (11, .dup, 1, 0), (12, .getfield 148, 3, 0), (15, .iconst 1, 1, 0), (16, .iadd, 1, 0), (17, .putfield 148, 3, 0), (20, .aload_n 0, 1, 0), (21, .aload_n 0, 1, 0), (22, .getfield 148, 3, 0), (25, .invokevirtual 151, 3, 0), (28, .bipush 39, 2, 0), (30, .if_icmp .eq 91, 3, 121), (33, .aload_n 0, 1, 0), (34, .aload_n 0, 1, 0), (35, .getfield 148, 3, 0), (38, .invokevirtual 151, 3, 0), (41, .istore_n 3, 1, 0), (42, .aload_n 0, 1, 0), (43, .iload_n 3, 1, 0), (44, .invokevirtual 185, 3, 0), (47, .ifCond .ne 15, 3, 62), (50, .iload_n 3, 1, 0), (51, .bipush 65, 2, 0), (53, .if_icmp .lt 13, 3, 66), (56, .iload_n 3, 1, 0), (57, .bipush 70, 2, 0), (59, .if_icmp .gt 7, 3, 66), (62, .iconst 1, 1, 0), (63, .goto 4, 3, 67), (66, .iconst 0, 1, 0), (67, .istore 4, 2, 0), (69, .iload 4, 2, 0), (71, .ifCond .ne 17, 3, 88), (74, .aload_n 0, 1, 0), (75, .iload_n 3, 1, 0), (76, .invokevirtual 155, 3, 0), (79, .ifCond .ne 9, 3, 88), (82, .aload_n 0, 1, 0), (83, .iconst 1, 1, 0), (84, .putfield 176, 3, 0), (87, .return_, 1, 0), (88, .iload 4, 2, 0), (90, .ifCond .eq 18, 3, 108), (93, .aload_n 1, 1, 0), (94, .iload_n 3, 1, 0), (95, .i2c, 1, 0), (96, .invokevirtual 162, 3, 0), (99, .pop, 1, 0), (100, .iload_n 3, 1, 0), (101, .bipush 49, 2, 0), (103, .if_icmp .le 5, 3, 108), (106, .iconst 0, 1, 0), (107, .istore_n 2, 1, 0), (108, .aload_n 0, 1, 0), (109, .dup, 1, 0), (110, .getfield 148, 3, 0), (113, .iconst 1, 1, 0), (114, .iadd, 1, 0), (115, .putfield 148, 3, 0), (118, .goto (-98), 3, 20), (121, .aload_n 0, 1, 0), (122, .dup, 1, 0), (123, .getfield 148, 3, 0), (126, .iconst 1, 1, 0), (127, .iadd, 1, 0), (128, .putfield 148, 3, 0), (131, .aload_n 0, 1, 0), (132, .aload_n 0, 1, 0), (133, .getfield 148, 3, 0), (136, .invokevirtual 151, 3, 0), (139, .istore_n 3, 1, 0), (140, .aload_n 0, 1, 0), (141, .dup, 1, 0), (142, .getfield 148, 3, 0), (145, .iconst 1, 1, 0), (146, .iadd, 1, 0), (147, .putfield 148, 3, 0), (150, .aload_n 0, 1, 0), (151, .iload_n 3, 1, 0), (152, .bipush 72, 2, 0), (154, .if_icmp .ne 8, 3, 162), (157, .bipush 8, 2, 0), (159, .goto 19, 3, 178), (162, .iload_n 3, 1, 0), (163, .bipush 66, 2, 0), (165, .if_icmp .ne 12, 3, 177), (168, .iload_n 2, 1, 0), (169, .ifCond .eq 8, 3, 177), (172, .bipush 7, 2, 0), (174, .goto 4, 3, 178), (177, .iconst 1, 1, 0), (178, .putfield 176, 3, 0), (181, .aload_n 0, 1, 0), (182, .aload_n 1, 1, 0), (183, .invokevirtual 166, 3, 0), (186, .putfield 205, 3, 0), (189, .return_, 1, 0)]
/-- NotationReaderModel.quoted()V -/
def xM23 : ab_M := (⟨"NotationReaderModel", "quoted", "()V"⟩, prog_6_method_14_code, 5, none, 0, false, [], xlk xP23, xC23)
def xP24 : List (Nat × ab_N) := [(176, (0, 3, 6, .null)), (205, (0, 3, 10, .null)), (216, (1, 76, 2, .null))]
def xC24 : List (Nat × Instr × Nat × Nat) := [(0, .aload_n 0, 1, 0), (1, .getfield 176, 3, 0), (4, .iconst 2, 1, 0), (5, .if_icmp .eq 12, 3, 17), (8, .aload_n 0, 1, 0), (9, .getfield 176, 3, 0), (12, .bipush 9, 2, 0), (14, .if_icmp .ne 18, 3, 32), (17, .aload_n 0, 1, 0), (18, .getfield 205, 3, 0), (21, .aload_n 1, 1, 0), (22, .invokevirtual 216, 3, 0), (25, .ifCond .eq 7, 3, 32), (28, .iconst 1, 1, 0), (29, .goto 4, 3, 33), (32, .iconst 0, 1, 0), (33, .ireturn, 1, 0)]
/-- NotationReaderModel.is(Ljava/lang/String;)Z -/
def xM24 : ab_M := (⟨"NotationReaderModel", "is", "(Ljava/lang/String;)Z"⟩, prog_6_method_15_code, 2, some .boolean, 1, false, [], xlk xP24, xC24)
def xP25 : List (Nat × ab_N) := [(228, (9, 6, 0, .null)), (230, (14, 6, 0, .null))]
def xC25 : List (Nat × Instr × Nat × Nat) := [(0, .iload_n 1, 1, 0), (1, .ifCond .ne 11, 3, 12), (4, .new 228, 3, 0), (7, .dup, 1, 0), (8, .invokespecial 230, 3, 0), (11, .athrow, 1, 0), (12, .return_, 1, 0)]
/-- NotationReaderModel.can(Z)V -/
def xM25 : ab_M := (⟨"NotationReaderModel", "can", "(Z)V"⟩, prog_6_method_16_code, 2, none, 1, false, [], xlk xP25, xC25)
def xP26 : List (Nat × ab_N) := [(231, (1, 24, 2, .null)), (235, (1, 25, 2, .null)), (239, (1, 19, 2, .null))]
def xC26 : List (Nat × Instr × Nat × Nat) := [(0, .aload_n 0, 1, 0), (1, .aload_n 0, 1, 0), (2, .aload_n 1, 1, 0), (3, .invokevirtual 231, 3, 0), (6, .invokevirtual 235, 3, 0), (9, .aload_n 0, 1, 0), (10, .invokevirtual 239, 3, 0), (13, .return_, 1, 0)]
/-- NotationReaderModel.expect(Ljava/lang/String;)V -/
def xM26 : ab_M := (⟨"NotationReaderModel", "expect", "(Ljava/lang/String;)V"⟩, prog_6_method_17_code, 2, none, 1, false, [], xlk xP26, xC26)
def xP27 : List (Nat × ab_N) := [(176, (0, 3, 6, .null)), (205, (0, 3, 10, .null)), (235, (1, 25, 2, .null)), (239, (1, 19, 2, .null))]
def xC27 : List (Nat × Instr × Nat × Nat) := [(0, .aload_n 0, 1, 0), (1, .aload_n 0, 1, 0), (2, .getfield 176, 3, 0), (5, .iload_n 1, 1, 0), (6, .if_icmp .ne 7, 3, 13), (9, .iconst 1, 1, 0), (10, .goto 4, 3, 14), (13, .iconst 0, 1, 0), (14, .invokevirtual 235, 3, 0), (17, .aload_n 0, 1, 0), (18, .getfield 205, 3, 0), (21, .astore_n 2, 1, 0), (22, .aload_n 0, 1, 0), (23, .invokevirtual 239, 3, 0), (26, .aload_n 2, 1, 0), (27, .areturn, 1, 0)]
/-- NotationReaderModel.take(I)Ljava/lang/String; -/
def xM27 : ab_M := (⟨"NotationReaderModel", "take", "(I)Ljava/lang/String;"⟩, prog_6_method_18_code, 3, some (.object "java/lang/String"), 1, false, [], xlk xP27, xC27)
def xP28 : List (Nat × ab_N) := [(41, (7, 0, 0, .float 25)), (176, (0, 3, 6, .null)), (220, (0, 3, 9, .null)), (231, (1, 24, 2, .null)), (235, (1, 25, 2, .null)), (239, (1, 19, 2, .null))]
def xC28 : List (Nat × Instr × Nat × Nat) := [(0, .aload_n 0, 1, 0), (1, .ldc 41, 2, 0), (3, .invokevirtual 231, 3, 0), (6, .istore_n 1, 1, 0), (7, .iload_n 1, 1, 0), (8, .ifCond .eq 7, 3, 15), (11, .aload_n 0, 1, 0), (12, .invokevirtual 239, 3, 0), (15, .aload_n 0, 1, 0), (16, .aload_n 0, 1, 0), (17, .getfield 176, 3, 0), (20, .iconst 5, 1, 0), (21, .if_icmp .ne 7, 3, 28), (24, .iconst 1, 1, 0), (25, .goto 4, 3, 29), (28, .iconst 0, 1, 0), (29, .invokevirtual 235, 3, 0), (32, .iload_n 1, 1, 0), (33, .ifCond .eq 11, 3, 44), (36, .aload_n 0, 1, 0), (37, .getfield 220, 3, 0), (40, .lneg, 1, 0), (41, .goto 7, 3, 48), (44, .aload_n 0, 1, 0), (45, .getfield 220, 3, 0), (48, .lstore_n 2, 1, 0), (49, .aload_n 0, 1, 0), (50, .invokevirtual 239, 3, 0), (53, .lload_n 2, 1, 0), (54, .lreturn, 1, 0)]
/-- NotationReaderModel.whole()J -/
def xM28 : ab_M := (⟨"NotationReaderModel", "whole", "()J"⟩, prog_6_method_19_code, 4, some .long, 0, false, [], xlk xP28, xC28)
def xP29 : List (Nat × ab_N) := [(25, (7, 0, 0, .float 17)), (41, (7, 0, 0, .float 25)), (97, (7, 0, 0, .float 3)), (99, (7, 0, 0, .float 4)), (101, (7, 0, 0, .float 5)), (176, (0, 3, 6, .null)), (231, (1, 24, 2, .null))]
def xC29 : List (Nat × Instr × Nat × Nat) := [(0, .aload_n 0, 1, 0), (1, .ldc 97, 2, 0), (3, .invokevirtual 231, 3, 0), (6, .ifCond .ne 82, 3, 88), (9, .aload_n 0, 1, 0), (10, .ldc 99, 2, 0), (12, .invokevirtual 231, 3, 0), (15, .ifCond .ne 73, 3, 88), (18, .aload_n 0, 1, 0), (19, .ldc 101, 2, 0), (21, .invokevirtual 231, 3, 0), (24, .ifCond .ne 64, 3, 88), (27, .aload_n 0, 1, 0), (28, .ldc 41, 2, 0), (30, .invokevirtual 231, 3, 0), (33, .ifCond .ne 55, 3, 88), (36, .aload_n 0, 1, 0), (37, .ldc 25, 2, 0), (39, .invokevirtual 231, 3, 0), (42, .ifCond .ne 46, 3, 88), (45, .aload_n 0, 1, 0), (46, .getfield 176, 3, 0), (49, .iconst 5, 1, 0), (50, .if_icmp .eq 38, 3, 88), (53, .aload_n 0, 1, 0), (54, .getfield 176, 3, 0), (57, .iconst 4, 1, 0), (58, .if_icmp .eq 30, 3, 88), (61, .aload_n 0, 1, 0), (62, .getfield 176, 3, 0), (65, .bipush 7, 2, 0), (67, .if_icmp .eq 21, 3, 88), (70, .aload_n 0, 1, 0), (71, .getfield 176, 3, 0), (74, .bipush 8, 2, 0), (76, .if_icmp .eq 12, 3, 88), (79, .aload_n 0, 1, 0), (80, .getfield 176, 3, 0), (83, .bipush 6, 2, 0), (85, .if_icmp .ne 7, 3, 92), (88, .iconst 1, 1, 0), (89, .goto 4, 3, 93), (92, .iconst 0, 1, 0), (93, .ireturn, 1, 0)]
/-- NotationReaderModel.beginsValue()Z -/
def xM29 : ab_M := (⟨"NotationReaderModel", "beginsValue", "()Z"⟩, prog_6_method_20_code, 1, some .boolean, 0, false, [], xlk xP29, xC29)
def xP30 : List (Nat × ab_N) := [(25, (7, 0, 0, .float 17)), (27, (7, 0, 0, .float 18)), (39, (7, 0, 0, .float 24)), (41, (7, 0, 0, .float 25)), (97, (7, 0, 0, .float 3)), (99, (7, 0, 0, .float 4)), (101, (7, 0, 0, .float 5)), (120, (2, 11, 0, .null)), (173, (0, 3, 7, .null)), (176, (0, 3, 6, .null)), (205, (0, 3, 10, .null)), (231, (1, 24, 2, .null)), (235, (1, 25, 2, .null)), (239, (1, 19, 2, .null)), (242, (1, 47, 0, .null)), (245, (1, 28, 2, .null)), (249, (8, 11, 3, .null)), (250, (8, 11, 4, .null)), (252, (1, 27, 2, .null)), (256, (1, 31, 2, .null)), (259, (1, 30, 2, .null)), (263, (1, 48, 2, .null)), (267, (0, 3, 12, .null)), (270, (1, 32, 2, .null)), (274, (8, 11, 2, .null)), (277, (1, 26, 2, .null))]
def xC30 : List (Nat × Instr × Nat × Nat) := [(0, .aload_n 0, 1, 0), (1, .getfield 173, 3, 0), (4, .istore_n 1, 1, 0), (5, .aload_n 0, 1, 0), (6, .ldc 97, 2, 0), (8, .invokevirtual 231, 3, 0), (11, .ifCond .ne 21, 3, 32), (14, .aload_n 0, 1, 0), (15, .ldc 99, 2, 0), (17, .invokevirtual 231, 3, 0), (20, .ifCond .ne 12, 3, 32), (23, .aload_n 0, 1, 0), (24, .ldc 101, 2, 0), (26, .invokevirtual 231, 3, 0), (29, .ifCond .eq 45, 3, 74), (32, .new 120, 3, 0), (35, .dup, 1, 0), (36, .aload_n 0, 1, 0), (37, .ldc 97, 2, 0), (39, .invokevirtual 231, 3, 0), (42, .ifCond .eq 7, 3, 49), (45, .iconst 0, 1, 0), (46, .goto 17, 3, 63), (49, .aload_n 0, 1, 0), (50, .ldc 99, 2, 0), (52, .invokevirtual 231, 3, 0), (55, .ifCond .eq 7, 3, 62), (58, .iconst 1, 1, 0), (59, .goto 4, 3, 63), (62, .iconst 2, 1, 0), (63, .iload_n 1, 1, 0), (64, .invokespecial 242, 3, 0), (67, .astore_n 2, 1, 0), (68, .aload_n 0, 1, 0), (69, .invokevirtual 239, 3, 0), (72, .aload_n 2, 1, 0), (73, .areturn, 1, 0), (74, .aload_n 0, 1, 0), (75, .ldc 41, 2, 0), (77, .invokevirtual 231, 3, 0), (80, .ifCond .ne 11, 3, 91), (83, .aload_n 0, 1, 0), (84, .getfield 176, 3, 0), (87, .iconst 5, 1, 0), (88, .if_icmp .ne 23, 3, 111), (91, .new 120, 3, 0), (94, .dup, 1, 0), (95, .iconst 3, 1, 0), (96, .iload_n 1, 1, 0), (97, .invokespecial 242, 3, 0), (100, .astore_n 2, 1, 0), (101, .aload_n 2, 1, 0), (102, .aload_n 0, 1, 0), (103, .invokevirtual 245, 3, 0), (106, .putfield 249, 3, 0), (109, .aload_n 2, 1, 0), (110, .areturn, 1, 0), (111, .aload_n 0, 1, 0), (112, .getfield 176, 3, 0), (115, .bipush 7, 2, 0), (117, .if_icmp .eq 21, 3, 138), (120, .aload_n 0, 1, 0), (121, .getfield 176, 3, 0), (124, .bipush 8, 2, 0), (126, .if_icmp .eq 12, 3, 138), (129, .aload_n 0, 1, 0), (130, .getfield 176, 3, 0), (133, .bipush 6, 2, 0), (135, .if_icmp .ne 55, 3, 190), (138, .new 120, 3, 0), (141, .dup, 1, 0), (142, .aload_n 0, 1, 0), (143, .getfield 176, 3, 0), (146, .bipush 7, 2, 0), (148, .if_icmp .ne 7, 3, 155), (151, .iconst 5, 1, 0), (152, .goto 19, 3, 171), (155, .aload_n 0, 1, 0), (156, .getfield 176, 3, 0), (159, .bipush 8, 2, 0), (161, .if_icmp .ne 8, 3, 169), (164, .bipush 6, 2, 0), (166, .goto 5, 3, 171), (169, .bipush 7, 2, 0), (171, .iload_n 1, 1, 0), (172, .invokespecial 242, 3, 0), (175, .astore_n 2, 1, 0), (176, .aload_n 2, 1, 0), (177, .aload_n 0, 1, 0), (178, .getfield 205, 3, 0), (181, .putfield 250, 3, 0), (184, .aload_n 0, 1, 0), (185, .invokevirtual 239, 3, 0), (188, .aload_n 2, 1, 0), (189, .areturn, 1, 0), (190, .aload_n 0, 1, 0), (191, .getfield 176, 3, 0), (194, .iconst 4, 1, 0), (195, .if_icmp .ne 76, 3, 271), (198, .aload_n 0, 1, 0), (199, .iconst 4, 1, 0), (200, .invokevirtual 252, 3, 0), (203, .astore_n 2, 1, 0), (204, .aload_n 0, 1, 0), (205, .ldc 39, 2, 0), (207, .invokevirtual 231, 3, 0), (210, .ifCond .ne 20, 3, 230), (213, .new 120, 3, 0), (216, .dup, 1, 0), (217, .iconst 4, 1, 0), (218, .iload_n 1, 1, 0), (219, .invokespecial 242, 3, 0), (222, .astore_n 3, 1, 0), (223, .aload_n 3, 1, 0), (224, .aload_n 2, 1, 0), (225, .putfield 250, 3, 0), (228, .aload_n 3, 1, 0), (229, .areturn, 1, 0), (230, .aload_n 0, 1, 0), (231, .invokevirtual 256, 3, 0), (234, .aload_n 0, 1, 0), (235, .invokevirtual 239, 3, 0), (238, .new 120, 3, 0), (241, .dup, 1, 0), (242, .bipush 8, 2, 0), (244, .iload_n 1, 1, 0), (245, .invokespecial 242, 3, 0), (248, .astore_n 3, 1, 0), (249, .aload_n 3, 1, 0), (250, .aload_n 2, 1, 0), (251, .iload_n 1, 1, 0), (252, .aload_n 0, 1, 0), (253, .invokevirtual 259, 3, 0), (256, .invokevirtual 263, 3, 0), (259, .aload_n 0, 1, 0), (260, .dup, 1, 0), (261, .getfield 267, 3, 0), (264, .iconst 1, 1, 0), (265, .isub, 1, 0), (266, .putfield 267, 3, 0), (269, .aload_n 3, 1, 0), (270, .areturn, 1, 0), (271, .aload_n 0, 1, 0), (272, .aload_n 0, 1, 0), (273, .ldc 25, 2, 0), (275, .invokevirtual 231, 3, 0), (278, .invokevirtual 235, 3, 0), (281, .aload_n 0, 1, 0), (282, .invokevirtual 256, 3, 0), (285, .aload_n 0, 1, 0), (286, .invokevirtual 239, 3, 0), (289, .aload_n 0, 1, 0), (290, .iload_n 1, 1, 0), (291, .invokevirtual 270, 3, 0), (294, .astore_n 2, 1, 0), (295, .aload_n 2, 1, 0), (296, .aload_n 0, 1, 0), (297, .getfield 173, 3, 0), (300, .putfield 274, 3, 0), (303, .aload_n 0, 1, 0), (304, .ldc 27, 2, 0), (306, .invokevirtual 277, 3, 0), (309, .aload_n 0, 1, 0), (310, .dup, 1, 0), (311, .getfield 267, 3, 0), (314, .iconst 1, 1, 0), (315, .isub, 1, 0), (316, .putfield 267, 3, 0), (319, .aload_n 2, 1, 0), (320, .areturn, 1, 0)]
/-- NotationReaderModel.value()LNotationReaderModel$Value; -/
def xM30 : ab_M := (⟨"NotationReaderModel", "value", "()LNotationReaderModel$Value;"⟩, prog_6_method_21_code, 4, some (.object "NotationReaderModel$Value"), 0, false, [], xlk xP30, xC30)
def xP31 : List (Nat × ab_N) := [(235, (1, 25, 2, .null)), (267, (0, 3, 12, .null))]
def xC31 : List (Nat × Instr × Nat × Nat) := [(0, .aload_n 0, 1, 0), (1, .dup, 1, 0), (2, .getfield 267, 3, 0), (5, .iconst 1, 1, 0), (6, .iadd, 1, 0), (7, .putfield 267, 3, 0), (10, .aload_n 0, 1, 0), (11, .aload_n 0, 1, 0), (12, .getfield 267, 3, 0), (15, .bipush 60, 2, 0), (17, .if_icmp .gt 7, 3, 24), (20, .iconst 1, 1, 0), (21, .goto 4, 3, 25), (24, .iconst 0, 1, 0), (25, .invokevirtual 235, 3, 0), (28, .return_, 1, 0)]
/-- NotationReaderModel.open()V -/
def xM31 : ab_M := (⟨"NotationReaderModel", "open", "()V"⟩, prog_6_method_22_code, 1, none, 0, false, [], xlk xP31, xC31)
def xP32 : List (Nat × ab_N) := [(27, (7, 0, 0, .float 18)), (37, (7, 0, 0, .float 23)), (120, (2, 11, 0, .null)), (148, (0, 3, 11, .null)), (173, (0, 3, 7, .null)), (176, (0, 3, 6, .null)), (205, (0, 3, 10, .null)), (209, (0, 3, 8, .null)), (220, (0, 3, 9, .null)), (231, (1, 24, 2, .null)), (239, (1, 19, 2, .null)), (242, (1, 47, 0, .null)), (249, (8, 11, 3, .null)), (252, (1, 27, 2, .null)), (259, (1, 30, 2, .null)), (263, (1, 48, 2, .null)), (281, (1, 29, 2, .null))]
def xC32 : List (Nat × Instr × Nat × Nat) := [(0, .aload_n 0, 1, 0), (1, .ldc 27, 2, 0), (3, .invokevirtual 231, 3, 0), (6, .ifCond .eq 14, 3, 20), (9, .new 120, 3, 0), (12, .dup, 1, 0), (13, .bipush 9, 2, 0), (15, .iload_n 1, 1, 0), (16, .invokespecial 242, 3, 0), (19, .areturn, 1, 0), (20, .aload_n 0, 1, 0), (21, .getfield 176, 3, 0), (24, .istore_n 2, 1, 0), (25, .aload_n 0, 1, 0), (26, .getfield 148, 3, 0), (29, .istore_n 3, 1, 0), (30, .aload_n 0, 1, 0), (31, .getfield 173, 3, 0), (34, .istore 4, 2, 0), (36, .aload_n 0, 1, 0), (37, .getfield 209, 3, 0), (40, .istore 5, 2, 0), (42, .aload_n 0, 1, 0), (43, .getfield 205, 3, 0), (46, .astore 6, 2, 0), (48, .aload_n 0, 1, 0), (49, .getfield 220, 3, 0), (52, .lstore 7, 2, 0), (54, .aload_n 0, 1, 0), (55, .invokevirtual 239, 3, 0), (58, .iload_n 2, 1, 0), (59, .iconst 4, 1, 0), (60, .if_icmp .ne 14, 3, 74), (63, .aload_n 0, 1, 0), (64, .invokevirtual 281, 3, 0), (67, .ifCond .eq 7, 3, 74), (70, .iconst 1, 1, 0), (71, .goto 4, 3, 75), (74, .iconst 0, 1, 0), (75, .istore 9, 2, 0), (77, .iload_n 2, 1, 0), (78, .iconst 5, 1, 0), (79, .if_icmp .ne 15, 3, 94), (82, .aload_n 0, 1, 0), (83, .getfield 176, 3, 0), (86, .iconst 5, 1, 0), (87, .if_icmp .ne 7, 3, 94), (90, .iconst 1, 1, 0), (91, .goto 4, 3, 95), (94, .iconst 0, 1, 0), (95, .istore 10, 2, 0), (97, .aload_n 0, 1, 0), (98, .iload_n 3, 1, 0), (99, .putfield 148, 3, 0), (102, .aload_n 0, 1, 0), (103, .iload 4, 2, 0), (105, .putfield 173, 3, 0), (108, .aload_n 0, 1, 0), (109, .iload 5, 2, 0), (111, .putfield 209, 3, 0), (114, .aload_n 0, 1, 0), (115, .aload 6, 2, 0), (117, .putfield 205, 3, 0), (120, .aload_n 0, 1, 0), (121, .lload 7, 2, 0), (123, .putfield 220, 3, 0), (126, .aload_n 0, 1, 0), (127, .iload_n 2, 1, 0), (128, .putfield 176, 3, 0), (131, .new 120, 3, 0), (134, .dup, 1, 0), (135, .iload 9, 2, 0), (137, .ifCond .eq 8, 3, 145), (140, .bipush 11, 2, 0), (142, .goto 15, 3, 157), (145, .iload 10, 2, 0), (147, .ifCond .eq 8, 3, 155), (150, .bipush 12, 2, 0), (152, .goto 5, 3, 157), (155, .bipush 10, 2, 0), (157, .iload_n 1, 1, 0), (158, .invokespecial 242, 3, 0), (161, .astore 11, 2, 0), (163, .iload 10, 2, 0), (165, .ifCond .eq 56, 3, 221), (168, .aload_n 0, 1, 0), (169, .getfield 176, 3, 0), (172, .iconst 5, 1, 0), (173, .if_icmp .ne 45, 3, 218), (176, .new 120, 3, 0), (179, .dup, 1, 0), (180, .iconst 3, 1, 0), (181, .aload_n 0, 1, 0), (182, .getfield 173, 3, 0), (185, .invokespecial 242, 3, 0), (188, .astore 12, 2, 0), (190, .aload 12, 2, 0), (192, .aload_n 0, 1, 0), (193, .getfield 220, 3, 0), (196, .putfield 249, 3, 0), (199, .aload 11, 2, 0), (201, .aconst_null, 1, 0), (202, .aload_n 0, 1, 0), (203, .getfield 173, 3, 0), (206, .aload 12, 2, 0), (208, .invokevirtual 263, 3, 0), (211, .aload_n 0, 1, 0), (212, .invokevirtual 239, 3, 0), (215, .goto (-47), 3, 168), (218, .aload 11, 2, 0), (220, .areturn, 1, 0), (221, .aload_n 0, 1, 0), (222, .getfield 173, 3, 0), (225, .istore 12, 2, 0), (227, .iload 9, 2, 0), (229, .ifCond .eq 11, 3, 240), (232, .aload_n 0, 1, 0), (233, .iconst 4, 1, 0), (234, .invokevirtual 252, 3, 0), (237, .goto 4, 3, 241), (240, .aconst_null, 1, 0), (241, .astore 13, 2, 0), (243, .aload 11, 2, 0), (245, .aload 13, 2, 0), (247, .iload 12, 2, 0), (249, .aload_n 0, 1, 0), (250, .invokevirtual 259, 3, 0), (253, .invokevirtual 263, 3, 0), (256, .aload_n 0, 1, 0), (257, .ldc 37, 2, 0), (259, .invokevirtual 231, 3, 0), (262, .ifCond .ne 6, 3, 268), (265, .aload 11, 2, 0), (267, .areturn, 1, 0), (268, .aload_n 0, 1, 0), (269, .invokevirtual 239, 3, 0), (272, .goto (-51), 3, 221)]
/-- NotationReaderModel.braces(I)LNotationReaderModel$Value; -/
def xM32 : ab_M := (⟨"NotationReaderModel", "braces", "(I)LNotationReaderModel$Value;"⟩, prog_6_method_23_code, 14, some (.object "NotationReaderModel$Value"), 1, false, [], xlk xP32, xC32)
def xP33 : List (Nat × ab_N) := [(17, (6, 3, 0, .null)), (120, (6, 4, 0, .null)), (122, (0, 3, 15, .null)), (126, (0, 3, 16, .null)), (130, (0, 3, 17, .null)), (133, (0, 3, 18, .null)), (136, (0, 3, 19, .null)), (139, (0, 3, 20, .null)), (285, (0, 3, 14, .null))]
def xC33 : List (Nat × Instr × Nat × Nat) := [(0, .aload_n 0, 1, 0), (1, .getfield 285, 3, 0), (4, .aload_n 0, 1, 0), (5, .getfield 126, 3, 0), (8, .arraylength, 1, 0), (9, .if_icmp .ne 175, 3, 184), (12, .iconst 2, 1, 0), (13, .aload_n 0, 1, 0), (14, .getfield 285, 3, 0), (17, .imul, 1, 0), (18, .istore 7, 2, 0), (20, .iload 7, 2, 0), (22, .anewarray 120, 3, 0), (25, .astore 8, 2, 0), (27, .iload 7, 2, 0), (29, .newarray .int, 2, 0), (31, .astore 9, 2, 0), (33, .iload 7, 2, 0), (35, .newarray .int, 2, 0), (37, .astore 10, 2, 0), (39, .iload 7, 2, 0), (41, .newarray .int, 2, 0), (43, .astore 11, 2, 0), (45, .iload 7, 2, 0), (47, .newarray .int, 2, 0), (49, .astore 12, 2, 0), (51, .iload 7, 2, 0), (53, .anewarray 17, 3, 0), (56, .astore 13, 2, 0), (58, .iconst 0, 1, 0), (59, .istore 14, 2, 0), (61, .iload 14, 2, 0), (63, .aload_n 0, 1, 0), (64, .getfield 285, 3, 0), (67, .if_icmp .ge 81, 3, 148), (70, .aload 8, 2, 0), (72, .iload 14, 2, 0), (74, .aload_n 0, 1, 0), (75, .getfield 122, 3, 0), (78, .iload 14, 2, 0), (80, .aaload, 1, 0), (81, .aastore, 1, 0), (82, .aload 9, 2, 0), (84, .iload 14, 2, 0), (86, .aload_n 0, 1, 0), (87, .getfield 126, 3, 0), (90, .iload 14, 2, 0), (92, .iaload, 1, 0), (93, .iastore, 1, 0), (94, .aload 10, 2, 0), (96, .iload 14, 2, 0), (98, .aload_n 0, 1, 0), (99, .getfield 130, 3, 0), (102, .iload 14, 2, 0), (104, .iaload, 1, 0), (105, .iastore, 1, 0), (106, .aload 11, 2, 0), (108, .iload 14, 2, 0), (110, .aload_n 0, 1, 0), (111, .getfield 133, 3, 0), (114, .iload 14, 2, 0), (116, .iaload, 1, 0), (117, .iastore, 1, 0), (118, .aload 12, 2, 0), (120, .iload 14, 2, 0), (122, .aload_n 0, 1, 0), (123, .getfield 136, 3, 0), (126, .iload 14, 2, 0), (128, .iaload, 1, 0), (129, .iastore, 1, 0), (130, .aload 13, 2, 0), (132, .iload 14, 2, 0), (134, .aload_n 0, 1, 0), (135, .getfield 139, 3, 0), (138, .iload 14, 2, 0), (140, .aaload, 1, 0), (141, .aastore, 1, 0), (142, .iinc 14 1, 3, 0), (145, .goto (-84), 3, 61), (148, .aload_n 0, 1, 0), (149, .aload 8, 2, 0), (151, .putfield 122, 3, 0), (154, .aload_n 0, 1, 0), (155, .aload 9, 2, 0), (157, .putfield 126, 3, 0), (160, .aload_n 0, 1, 0), (161, .aload 10, 2, 0), (163, .putfield 130, 3, 0), (166, .aload_n 0, 1, 0), (167, .aload 11, 2, 0), (169, .putfield 133, 3, 0), (172, .aload_n 0, 1, 0), (173, .aload 12, 2, 0), (175, .putfield 136, 3, 0), (178, .aload_n 0, 1, 0), (179, .aload 13, 2, 0), (181, .putfield 139, 3, 0), (184, .aload_n 0, 1, 0), (185, .getfield 122, 3, 0), (188, .aload_n 0, 1, 0), (189, .getfield 285, 3, 0), (192, .aload 4, 2, 0), (194, .aastore, 1, 0), (195, .aload_n 0, 1, 0), (196, .getfield 126, 3, 0), (199, .aload_n 0, 1, 0), (200, .getfield 285, 3, 0), (203, .iload_n 1, 1, 0), (204, .iastore, 1, 0), (205, .aload_n 0, 1, 0), (206, .getfield 130, 3, 0), (209, .aload_n 0, 1, 0), (210, .getfield 285, 3, 0), (213, .iload_n 2, 1, 0), (214, .iastore, 1, 0), (215, .aload_n 0, 1, 0), (216, .getfield 133, 3, 0), (219, .aload_n 0, 1, 0), (220, .getfield 285, 3, 0), (223, .iload_n 3, 1, 0), (224, .iastore, 1, 0), (225, .aload_n 0, 1, 0), (226, .getfield 136, 3, 0), (229, .aload_n 0, 1, 0), (230, .getfield 285, 3, 0), (233, .iload 6, 2, 0), (235, .iastore, 1, 0), (236, .aload_n 0, 1, 0), (237, .getfield 139, 3, 0), (240, .aload_n 0, 1, 0), (241, .getfield 285, 3, 0), (244, .aload 5, 2, 0), (246, .aastore, 1, 0), (247, .aload_n 0, 1, 0), (248, .dup, 1, 0), (249, .getfield 285, 3, 0), (252, .dup_x1, 1, 0), (253, .iconst 1, 1, 0), (254, .iadd, 1, 0), (255, .putfield 285, 3, 0), (258, .ireturn, 1, 0)]
/-- NotationReaderModel.node(IIILNotationReaderModel$Value;Ljava/lang/String;I)I -/
def xM33 : ab_M := (⟨"NotationReaderModel", "node", "(IIILNotationReaderModel$Value;Ljava/lang/String;I)I"⟩, prog_6_method_24_code, 15, some .int, 6, false, [], xlk xP33, xC33)
def xP34 : List (Nat × ab_N) := [(250, (8, 11, 4, .null)), (288, (8, 11, 0, .null)), (291, (8, 11, 1, .null)), (292, (1, 33, 2, .null)), (296, (8, 11, 6, .null)), (297, (8, 11, 5, .null)), (300, (1, 34, 2, .null)), (304, (8, 11, 8, .null)), (307, (8, 11, 7, .null))]
def xC34 : List (Nat × Instr × Nat × Nat) := [(0, .aload_n 1, 1, 0), (1, .getfield 288, 3, 0), (4, .tableswitch 146 0 8 #[52, 52, 52, 52, 72, 91, 91, 91, 112], 52, 0), (56, .aload_n 0, 1, 0), (57, .aload_n 1, 1, 0), (58, .getfield 288, 3, 0), (61, .iconst 1, 1, 0), (62, .iadd, 1, 0), (63, .aload_n 1, 1, 0), (64, .getfield 291, 3, 0), (67, .iconst 0, 1, 0), (68, .aload_n 1, 1, 0), (69, .aconst_null, 1, 0), (70, .iload_n 2, 1, 0), (71, .invokevirtual 292, 3, 0), (74, .istore_n 3, 1, 0), (75, .return_, 1, 0), (76, .aload_n 0, 1, 0), (77, .iconst 5, 1, 0), (78, .aload_n 1, 1, 0), (79, .getfield 291, 3, 0), (82, .iconst 0, 1, 0), (83, .aload_n 1, 1, 0), (84, .aload_n 1, 1, 0), (85, .getfield 250, 3, 0), (88, .iload_n 2, 1, 0), (89, .invokevirtual 292, 3, 0), (92, .istore 4, 2, 0), (94, .return_, 1, 0), (95, .aload_n 0, 1, 0), (96, .aload_n 1, 1, 0), (97, .getfield 288, 3, 0), (100, .iconst 1, 1, 0), (101, .iadd, 1, 0), (102, .aload_n 1, 1, 0), (103, .getfield 291, 3, 0), (106, .iconst 0, 1, 0), (107, .aload_n 1, 1, 0), (108, .aconst_null, 1, 0), (109, .iload_n 2, 1, 0), (110, .invokevirtual 292, 3, 0), (113, .istore 5, 2, 0), (115, .return_, 1, 0), (116, .aload_n 0, 1, 0), (117, .bipush 9, 2, 0), (119, .aload_n 1, 1, 0), (120, .getfield 291, 3, 0), (123, .iconst 1, 1, 0), (124, .aload_n 1, 1, 0), (125, .aload_n 1, 1, 0), (126, .getfield 296, 3, 0), (129, .iconst 0, 1, 0), (130, .aaload, 1, 0), (131, .iload_n 2, 1, 0), (132, .invokevirtual 292, 3, 0), (135, .istore 6, 2, 0), (137, .aload_n 0, 1, 0), (138, .aload_n 1, 1, 0), (139, .getfield 297, 3, 0), (142, .iconst 0, 1, 0), (143, .aaload, 1, 0), (144, .iload 6, 2, 0), (146, .invokevirtual 300, 3, 0), (149, .return_, 1, 0), (150, .aload_n 0, 1, 0), (151, .aload_n 1, 1, 0), (152, .getfield 288, 3, 0), (155, .bipush 9, 2, 0), (157, .if_icmp .ne 8, 3, 165), (160, .bipush 10, 2, 0), (162, .goto 33, 3, 195), (165, .aload_n 1, 1, 0), (166, .getfield 288, 3, 0), (169, .bipush 10, 2, 0), (171, .if_icmp .ne 8, 3, 179), (174, .bipush 11, 2, 0), (176, .goto 19, 3, 195), (179, .aload_n 1, 1, 0), (180, .getfield 288, 3, 0), (183, .bipush 11, 2, 0), (185, .if_icmp .ne 8, 3, 193), (188, .bipush 12, 2, 0), (190, .goto 5, 3, 195), (193, .bipush 13, 2, 0), (195, .aload_n 1, 1, 0), (196, .getfield 291, 3, 0), (199, .aload_n 1, 1, 0), (200, .getfield 304, 3, 0), (203, .aload_n 1, 1, 0), (204, .aconst_null, 1, 0), (205, .iload_n 2, 1, 0), (206, .invokevirtual 292, 3, 0), (209, .istore 7, 2, 0), (211, .iconst 0, 1, 0), (212, .istore 8, 2, 0), (214, .iload 8, 2, 0), (216, .aload_n 1, 1, 0), (217, .getfield 304, 3, 0), (220, .if_icmp .ge 60, 3, 280), (223, .iload 7, 2, 0), (225, .istore 9, 2, 0), (227, .aload_n 1, 1, 0), (228, .getfield 288, 3, 0), (231, .bipush 11, 2, 0), (233, .if_icmp .ne 28, 3, 261), (236, .aload_n 0, 1, 0), (237, .iconst 5, 1, 0), (238, .aload_n 1, 1, 0), (239, .getfield 307, 3, 0), (242, .iload 8, 2, 0), (244, .iaload, 1, 0), (245, .iconst 1, 1, 0), (246, .aload_n 1, 1, 0), (247, .aload_n 1, 1, 0), (248, .getfield 296, 3, 0), (251, .iload 8, 2, 0), (253, .aaload, 1, 0), (254, .iload 7, 2, 0), (256, .invokevirtual 292, 3, 0), (259, .istore 9, 2, 0), (261, .aload_n 0, 1, 0), (262, .aload_n 1, 1, 0), (263, .getfield 297, 3, 0), (266, .iload 8, 2, 0), (268, .aaload, 1, 0), (269, .iload 9, 2, 0), (271, .invokevirtual 300, 3, 0), (274, .iinc 8 1, 3, 0), (277, .goto (-63), 3, 214), (280, .return_, 1, 0)]
/-- NotationReaderModel.lay(LNotationReaderModel$Value;I)V -/
def xM34 : ab_M := (⟨"NotationReaderModel", "lay", "(LNotationReaderModel$Value;I)V"⟩, prog_6_method_25_code, 10, none, 2, false, [], xlk xP34, xC34)
def xP35 : List (Nat × ab_N) := [(7, (0, 3, 1, .int 1)), (142, (0, 3, 0, .null)), (145, (0, 3, 2, .null)), (308, (1, 12, 2, .null))]
def xC35 : List (Nat × Instr × Nat × Nat) := [(0, .aload_n 0, 1, 0), (1, .iconst 0, 1, 0), (2, .putfield 142, 3, 0), (5, .aload_n 0, 1, 0), (6, .getfield 145, 3, 0), (9, .bipush 20, 2, 0), (11, .iadd, 1, 0), (12, .sipush 4096, 3, 0), (15, .if_icmp .le 9, 3, 24), (18, .aload_n 0, 1, 0), (19, .iconst 1, 1, 0), (20, .invokevirtual 308, 3, 0), (23, .ireturn, 1, 0), (24, .iconst 0, 1, 0), (25, .istore 6, 2, 0), (27, .iload 6, 2, 0), (29, .bipush 20, 2, 0), (31, .if_icmp .ge 90, 3, 121), (34, .iload 6, 2, 0), (36, .iconst 4, 1, 0), (37, .if_icmp .ge 7, 3, 44), (40, .iload_n 1, 1, 0), (41, .goto 39, 3, 80), (44, .iload 6, 2, 0), (46, .bipush 8, 2, 0), (48, .if_icmp .ge 7, 3, 55), (51, .iload_n 2, 1, 0), (52, .goto 28, 3, 80), (55, .iload 6, 2, 0), (57, .bipush 12, 2, 0), (59, .if_icmp .ge 7, 3, 66), (62, .iload_n 3, 1, 0), (63, .goto 17, 3, 80), (66, .iload 6, 2, 0), (68, .bipush 16, 2, 0), (70, .if_icmp .ge 8, 3, 78), (73, .iload 4, 2, 0), (75, .goto 5, 3, 80), (78, .iload 5, 2, 0), (80, .istore 7, 2, 0), (82, .aload_n 0, 1, 0), (83, .getfield 7, 3, 0), (86, .aload_n 0, 1, 0), (87, .getfield 145, 3, 0), (90, .iload 7, 2, 0), (92, .bipush 24, 2, 0), (94, .bipush 8, 2, 0), (96, .iload 6, 2, 0), (98, .iconst 4, 1, 0), (99, .irem, 1, 0), (100, .imul, 1, 0), (101, .isub, 1, 0), (102, .ishr, 1, 0), (103, .i2b, 1, 0), (104, .bastore, 1, 0), (105, .aload_n 0, 1, 0), (106, .dup, 1, 0), (107, .getfield 145, 3, 0), (110, .iconst 1, 1, 0), (111, .iadd, 1, 0), (112, .putfield 145, 3, 0), (115, .iinc 6 1, 3, 0), (118, .goto (-91), 3, 27), (121, .aload_n 0, 1, 0), (122, .getfield 145, 3, 0), (125, .ireturn, 1, 0)]
/-- NotationReaderModel.feed(IIIII)I -/
def xM35 : ab_M := (⟨"NotationReaderModel", "feed", "(IIIII)I"⟩, prog_6_method_26_code, 8, some .int, 5, false, [], xlk xP35, xC35)
def xP36 : List (Nat × ab_N) := [(142, (0, 3, 0, .null)), (145, (0, 3, 2, .null)), (308, (1, 12, 2, .null))]
def xC36 : List (Nat × Instr × Nat × Nat) := [(0, .aload_n 0, 1, 0), (1, .iconst 0, 1, 0), (2, .putfield 142, 3, 0), (5, .iload_n 1, 1, 0), (6, .ifCond .lt 11, 3, 17), (9, .iload_n 1, 1, 0), (10, .aload_n 0, 1, 0), (11, .getfield 145, 3, 0), (14, .if_icmp .le 9, 3, 23), (17, .aload_n 0, 1, 0), (18, .iconst 1, 1, 0), (19, .invokevirtual 308, 3, 0), (22, .ireturn, 1, 0), (23, .aload_n 0, 1, 0), (24, .iload_n 1, 1, 0), (25, .putfield 145, 3, 0), (28, .iload_n 1, 1, 0), (29, .ireturn, 1, 0)]
/-- NotationReaderModel.end(I)I -/
def xM36 : ab_M := (⟨"NotationReaderModel", "end", "(I)I"⟩, prog_6_method_27_code, 2, some .int, 1, false, [], xlk xP36, xC36)
def xP37 : List (Nat × ab_N) := [(13, (0, 3, 3, .null)), (142, (0, 3, 0, .null)), (145, (0, 3, 2, .null)), (148, (0, 3, 11, .null)), (173, (0, 3, 7, .null)), (176, (0, 3, 6, .null)), (228, (11, 6, 0, .null)), (235, (1, 25, 2, .null)), (239, (1, 19, 2, .null)), (259, (1, 30, 2, .null)), (267, (0, 3, 12, .null)), (285, (0, 3, 14, .null)), (300, (1, 34, 2, .null))]
def xC37 : List (Nat × Instr × Nat × Nat) := [(0, .aload_n 0, 1, 0), (1, .iconst 0, 1, 0), (2, .putfield 142, 3, 0), (5, .aload_n 0, 1, 0), (6, .iconst (-1), 1, 0), (7, .putfield 13, 3, 0), (10, .aload_n 0, 1, 0), (11, .iconst 0, 1, 0), (12, .putfield 285, 3, 0), (15, .aload_n 0, 1, 0), (16, .iconst 0, 1, 0), (17, .putfield 148, 3, 0), (20, .aload_n 0, 1, 0), (21, .iconst 0, 1, 0), (22, .putfield 267, 3, 0), (25, .aload_n 0, 1, 0), (26, .invokevirtual 239, 3, 0), (29, .aload_n 0, 1, 0), (30, .invokevirtual 259, 3, 0), (33, .astore_n 1, 1, 0), (34, .aload_n 0, 1, 0), (35, .aload_n 0, 1, 0), (36, .getfield 176, 3, 0), (39, .ifCond .ne 7, 3, 46), (42, .iconst 1, 1, 0), (43, .goto 4, 3, 47), (46, .iconst 0, 1, 0), (47, .invokevirtual 235, 3, 0), (50, .aload_n 0, 1, 0), (51, .aload_n 1, 1, 0), (52, .iconst (-1), 1, 0), (53, .invokevirtual 300, 3, 0), (56, .goto 22, 3, 78), (59, .astore_n 1, 1, 0), (60, .aload_n 0, 1, 0), (61, .aload_n 0, 1, 0), (62, .getfield 173, 3, 0), (65, .putfield 13, 3, 0), (68, .aload_n 0, 1, 0), (69, .iconst 0, 1, 0), (70, .putfield 285, 3, 0), (73, .aload_n 0, 1, 0), (74, .iconst 1, 1, 0), (75, .putfield 142, 3, 0), (78, .aload_n 0, 1, 0), (79, .iconst 0, 1, 0), (80, .putfield 145, 3, 0), (83, .aload_n 0, 1, 0), (84, .getfield 142, 3, 0), (87, .ifCond .le 7, 3, 94), (90, .iconst 0, 1, 0), (91, .goto 7, 3, 98), (94, .aload_n 0, 1, 0), (95, .getfield 285, 3, 0), (98, .ireturn, 1, 0)]
/-- NotationReaderModel.read()I -/
def xM37 : ab_M := (⟨"NotationReaderModel", "read", "()I"⟩, prog_6_method_28_code, 2, some .int, 0, false, [(29, 56, 59, 228)], xlk xP37, xC37)
def xP38 : List (Nat × ab_N) := [(13, (0, 3, 3, .null)), (142, (0, 3, 0, .null))]
def xC38 : List (Nat × Instr × Nat × Nat) := [(0, .aload_n 0, 1, 0), (1, .iconst 0, 1, 0), (2, .putfield 142, 3, 0), (5, .aload_n 0, 1, 0), (6, .getfield 13, 3, 0), (9, .ireturn, 1, 0)]
/-- NotationReaderModel.place()I -/
def xM38 : ab_M := (⟨"NotationReaderModel", "place", "()I"⟩, prog_6_method_29_code, 1, some .int, 0, false, [], xlk xP38, xC38)
def xP39 : List (Nat × ab_N) := [(285, (0, 3, 14, .null))]
def xC39 : List (Nat × Instr × Nat × Nat) := [(0, .iload_n 1, 1, 0), (1, .ifCond .lt 11, 3, 12), (4, .iload_n 1, 1, 0), (5, .aload_n 0, 1, 0), (6, .getfield 285, 3, 0), (9, .if_icmp .lt 7, 3, 16), (12, .iconst 1, 1, 0), (13, .goto 4, 3, 17), (16, .iconst 0, 1, 0), (17, .ireturn, 1, 0)]
/-- NotationReaderModel.out(I)Z -/
def xM39 : ab_M := (⟨"NotationReaderModel", "out", "(I)Z"⟩, prog_6_method_30_code, 2, some .boolean, 1, false, [], xlk xP39, xC39)
def xP40 : List (Nat × ab_N) := [(122, (0, 3, 15, .null)), (126, (0, 3, 16, .null)), (197, (1, 71, 2, .null)), (250, (8, 11, 4, .null))]
def xC40 : List (Nat × Instr × Nat × Nat) := [(0, .aload_n 0, 1, 0), (1, .getfield 126, 3, 0), (4, .iload_n 1, 1, 0), (5, .iaload, 1, 0), (6, .bipush 6, 2, 0), (8, .if_icmp .lt 29, 3, 37), (11, .aload_n 0, 1, 0), (12, .getfield 126, 3, 0), (15, .iload_n 1, 1, 0), (16, .iaload, 1, 0), (17, .bipush 8, 2, 0), (19, .if_icmp .gt 18, 3, 37), (22, .aload_n 0, 1, 0), (23, .getfield 122, 3, 0), (26, .iload_n 1, 1, 0), (27, .aaload, 1, 0), (28, .getfield 250, 3, 0), (31, .invokevirtual 197, 3, 0), (34, .goto 4, 3, 38), (37, .iconst 0, 1, 0), (38, .ireturn, 1, 0)]
/-- NotationReaderModel.units(I)I -/
def xM40 : ab_M := (⟨"NotationReaderModel", "units", "(I)I"⟩, prog_6_method_31_code, 2, some .int, 1, false, [], xlk xP40, xC40)
def xP41 : List (Nat × ab_N) := [(126, (0, 3, 16, .null)), (130, (0, 3, 17, .null)), (133, (0, 3, 18, .null)), (142, (0, 3, 0, .null)), (308, (1, 12, 2, .null)), (311, (1, 39, 2, .null)), (314, (1, 40, 2, .null))]
def xC41 : List (Nat × Instr × Nat × Nat) := [(0, .aload_n 0, 1, 0), (1, .iconst 0, 1, 0), (2, .putfield 142, 3, 0), (5, .aload_n 0, 1, 0), (6, .iload_n 1, 1, 0), (7, .invokevirtual 311, 3, 0), (10, .ifCond .ne 12, 3, 22), (13, .iload_n 2, 1, 0), (14, .ifCond .lt 8, 3, 22), (17, .iload_n 2, 1, 0), (18, .iconst 3, 1, 0), (19, .if_icmp .le 9, 3, 28), (22, .aload_n 0, 1, 0), (23, .iconst 1, 1, 0), (24, .invokevirtual 308, 3, 0), (27, .ireturn, 1, 0), (28, .iload_n 2, 1, 0), (29, .ifCond .ne 12, 3, 41), (32, .aload_n 0, 1, 0), (33, .getfield 126, 3, 0), (36, .iload_n 1, 1, 0), (37, .iaload, 1, 0), (38, .goto 36, 3, 74), (41, .iload_n 2, 1, 0), (42, .iconst 1, 1, 0), (43, .if_icmp .ne 12, 3, 55), (46, .aload_n 0, 1, 0), (47, .getfield 130, 3, 0), (50, .iload_n 1, 1, 0), (51, .iaload, 1, 0), (52, .goto 22, 3, 74), (55, .iload_n 2, 1, 0), (56, .iconst 2, 1, 0), (57, .if_icmp .ne 12, 3, 69), (60, .aload_n 0, 1, 0), (61, .getfield 133, 3, 0), (64, .iload_n 1, 1, 0), (65, .iaload, 1, 0), (66, .goto 8, 3, 74), (69, .aload_n 0, 1, 0), (70, .iload_n 1, 1, 0), (71, .invokevirtual 314, 3, 0), (74, .ireturn, 1, 0)]
/-- NotationReaderModel.node(II)I -/
def xM41 : ab_M := (⟨"NotationReaderModel", "node", "(II)I"⟩, prog_6_method_32_code, 3, some .int, 2, false, [], xlk xP41, xC41)
def xP42 : List (Nat × ab_N) := [(133, (0, 3, 18, .null)), (136, (0, 3, 19, .null)), (142, (0, 3, 0, .null)), (308, (1, 12, 2, .null)), (311, (1, 39, 2, .null))]
def xC42 : List (Nat × Instr × Nat × Nat) := [(0, .aload_n 0, 1, 0), (1, .iconst 0, 1, 0), (2, .putfield 142, 3, 0), (5, .aload_n 0, 1, 0), (6, .iload_n 1, 1, 0), (7, .invokevirtual 311, 3, 0), (10, .ifCond .eq 9, 3, 19), (13, .aload_n 0, 1, 0), (14, .iconst 1, 1, 0), (15, .invokevirtual 308, 3, 0), (18, .ireturn, 1, 0), (19, .iload_n 2, 1, 0), (20, .ifCond .lt 13, 3, 33), (23, .iload_n 2, 1, 0), (24, .aload_n 0, 1, 0), (25, .getfield 133, 3, 0), (28, .iload_n 1, 1, 0), (29, .iaload, 1, 0), (30, .if_icmp .lt 9, 3, 39), (33, .aload_n 0, 1, 0), (34, .iconst 2, 1, 0), (35, .invokevirtual 308, 3, 0), (38, .ireturn, 1, 0), (39, .iload_n 2, 1, 0), (40, .istore_n 3, 1, 0), (41, .iload_n 1, 1, 0), (42, .iconst 1, 1, 0), (43, .iadd, 1, 0), (44, .istore 4, 2, 0), (46, .aload_n 0, 1, 0), (47, .getfield 136, 3, 0), (50, .iload 4, 2, 0), (52, .iaload, 1, 0), (53, .iload_n 1, 1, 0), (54, .if_icmp .ne 7, 3, 61), (57, .iload_n 3, 1, 0), (58, .ifCond .le 23, 3, 81), (61, .aload_n 0, 1, 0), (62, .getfield 136, 3, 0), (65, .iload 4, 2, 0), (67, .iaload, 1, 0), (68, .iload_n 1, 1, 0), (69, .if_icmp .ne 6, 3, 75), (72, .iinc 3 (-1), 3, 0), (75, .iinc 4 1, 3, 0), (78, .goto (-32), 3, 46), (81, .iload 4, 2, 0), (83, .ireturn, 1, 0)]
/-- NotationReaderModel.part(II)I -/
def xM42 : ab_M := (⟨"NotationReaderModel", "part", "(II)I"⟩, prog_6_method_33_code, 5, some .int, 2, false, [], xlk xP42, xC42)
def xP43 : List (Nat × ab_N) := [(122, (0, 3, 15, .null)), (126, (0, 3, 16, .null)), (142, (0, 3, 0, .null)), (249, (8, 11, 3, .null)), (308, (1, 12, 2, .null)), (311, (1, 39, 2, .null))]
def xC43 : List (Nat × Instr × Nat × Nat) := [(0, .aload_n 0, 1, 0), (1, .iconst 0, 1, 0), (2, .putfield 142, 3, 0), (5, .aload_n 0, 1, 0), (6, .iload_n 1, 1, 0), (7, .invokevirtual 311, 3, 0), (10, .ifCond .eq 10, 3, 20), (13, .aload_n 0, 1, 0), (14, .iconst 1, 1, 0), (15, .invokevirtual 308, 3, 0), (18, .i2l, 1, 0), (19, .lreturn, 1, 0), (20, .aload_n 0, 1, 0), (21, .getfield 126, 3, 0), (24, .iload_n 1, 1, 0), (25, .iaload, 1, 0), (26, .iconst 4, 1, 0), (27, .if_icmp .ne 15, 3, 42), (30, .aload_n 0, 1, 0), (31, .getfield 122, 3, 0), (34, .iload_n 1, 1, 0), (35, .aaload, 1, 0), (36, .getfield 249, 3, 0), (39, .goto 9, 3, 48), (42, .aload_n 0, 1, 0), (43, .iconst 2, 1, 0), (44, .invokevirtual 308, 3, 0), (47, .i2l, 1, 0), (48, .lreturn, 1, 0)]
/-- NotationReaderModel.number(I)J -/
def xM43 : ab_M := (⟨"NotationReaderModel", "number", "(I)J"⟩, prog_6_method_34_code, 2, some .long, 1, false, [], xlk xP43, xC43)
def xP44 : List (Nat × ab_N) := [(122, (0, 3, 15, .null)), (142, (0, 3, 0, .null)), (201, (1, 74, 2, .null)), (250, (8, 11, 4, .null)), (308, (1, 12, 2, .null)), (311, (1, 39, 2, .null)), (314, (1, 40, 2, .null))]
def xC44 : List (Nat × Instr × Nat × Nat) := [(0, .aload_n 0, 1, 0), (1, .iconst 0, 1, 0), (2, .putfield 142, 3, 0), (5, .aload_n 0, 1, 0), (6, .iload_n 1, 1, 0), (7, .invokevirtual 311, 3, 0), (10, .ifCond .eq 9, 3, 19), (13, .aload_n 0, 1, 0), (14, .iconst 1, 1, 0), (15, .invokevirtual 308, 3, 0), (18, .ireturn, 1, 0), (19, .iload_n 2, 1, 0), (20, .ifCond .lt 12, 3, 32), (23, .iload_n 2, 1, 0), (24, .aload_n 0, 1, 0), (25, .iload_n 1, 1, 0), (26, .invokevirtual 314, 3, 0), (29, .if_icmp .lt 11, 3, 40), (32, .aload_n 0, 1, 0), (33, .iconst 2, 1, 0), (34, .invokevirtual 308, 3, 0), (37, .goto 16, 3, 53), (40, .aload_n 0, 1, 0), (41, .getfield 122, 3, 0), (44, .iload_n 1, 1, 0), (45, .aaload, 1, 0), (46, .getfield 250, 3, 0), (49, .iload_n 2, 1, 0), (50, .invokevirtual 201, 3, 0), (53, .ireturn, 1, 0)]
/-- NotationReaderModel.unit(II)I -/
def xM44 : ab_M := (⟨"NotationReaderModel", "unit", "(II)I"⟩, prog_6_method_35_code, 3, some .int, 2, false, [], xlk xP44, xC44)
def xP45 : List (Nat × ab_N) := [(139, (0, 3, 20, .null)), (142, (0, 3, 0, .null)), (216, (1, 76, 2, .null)), (308, (1, 12, 2, .null)), (311, (1, 39, 2, .null))]
def xC45 : List (Nat × Instr × Nat × Nat) := [(0, .aload_n 0, 1, 0), (1, .iconst 0, 1, 0), (2, .putfield 142, 3, 0), (5, .aload_n 0, 1, 0), (6, .iload_n 1, 1, 0), (7, .invokevirtual 311, 3, 0), (10, .ifCond .ne 11, 3, 21), (13, .aload_n 0, 1, 0), (14, .iload_n 2, 1, 0), (15, .invokevirtual 311, 3, 0), (18, .ifCond .eq 17, 3, 35), (21, .aload_n 0, 1, 0), (22, .iconst 1, 1, 0), (23, .invokevirtual 308, 3, 0), (26, .ifCond .le 7, 3, 33), (29, .iconst 1, 1, 0), (30, .goto 4, 3, 34), (33, .iconst 0, 1, 0), (34, .ireturn, 1, 0), (35, .aload_n 0, 1, 0), (36, .getfield 139, 3, 0), (39, .iload_n 1, 1, 0), (40, .aaload, 1, 0), (41, .ifnull 12, 3, 53), (44, .aload_n 0, 1, 0), (45, .getfield 139, 3, 0), (48, .iload_n 2, 1, 0), (49, .aaload, 1, 0), (50, .ifnonnull 17, 3, 67), (53, .aload_n 0, 1, 0), (54, .iconst 2, 1, 0), (55, .invokevirtual 308, 3, 0), (58, .ifCond .le 7, 3, 65), (61, .iconst 1, 1, 0), (62, .goto 4, 3, 66), (65, .iconst 0, 1, 0), (66, .ireturn, 1, 0), (67, .aload_n 0, 1, 0), (68, .getfield 139, 3, 0), (71, .iload_n 1, 1, 0), (72, .aaload, 1, 0), (73, .aload_n 0, 1, 0), (74, .getfield 139, 3, 0), (77, .iload_n 2, 1, 0), (78, .aaload, 1, 0), (79, .invokevirtual 216, 3, 0), (82, .ireturn, 1, 0)]
/-- NotationReaderModel.same(II)Z -/
def xM45 : ab_M := (⟨"NotationReaderModel", "same", "(II)Z"⟩, prog_6_method_36_code, 3, some .boolean, 2, false, [], xlk xP45, xC45)
def xP46 : List (Nat × ab_N) := [(142, (0, 3, 0, .null)), (145, (0, 3, 2, .null)), (285, (0, 3, 14, .null)), (308, (1, 12, 2, .null))]
def xC46 : List (Nat × Instr × Nat × Nat) := [(0, .aload_n 0, 1, 0), (1, .iconst 0, 1, 0), (2, .putfield 142, 3, 0), (5, .iload_n 1, 1, 0), (6, .ifCond .ne 10, 3, 16), (9, .aload_n 0, 1, 0), (10, .getfield 145, 3, 0), (13, .goto 20, 3, 33), (16, .iload_n 1, 1, 0), (17, .iconst 1, 1, 0), (18, .if_icmp .ne 10, 3, 28), (21, .aload_n 0, 1, 0), (22, .getfield 285, 3, 0), (25, .goto 8, 3, 33), (28, .aload_n 0, 1, 0), (29, .iconst 1, 1, 0), (30, .invokevirtual 308, 3, 0), (33, .ireturn, 1, 0)]
/-- NotationReaderModel.count(I)I -/
def xM46 : ab_M := (⟨"NotationReaderModel", "count", "(I)I"⟩, prog_6_method_37_code, 2, some .int, 1, false, [], xlk xP46, xC46)
def xP47 : List (Nat × ab_N) := [(1, (5, 0, 0, .null)), (7, (6, 4, 0, .null)), (9, (0, 11, 5, .null)), (13, (6, 3, 0, .null)), (15, (0, 11, 6, .null)), (19, (0, 11, 7, .null)), (23, (0, 11, 0, .int 1)), (27, (0, 11, 1, .int 1))]
def xC47 : List (Nat × Instr × Nat × Nat) := [(0, .aload_n 0, 1, 0), (1, .invokespecial 1, 3, 0), (4, .aload_n 0, 1, 0), (5, .iconst 2, 1, 0), (6, .anewarray 7, 3, 0), (9, .putfield 9, 3, 0), (12, .aload_n 0, 1, 0), (13, .iconst 2, 1, 0), (14, .anewarray 13, 3, 0), (17, .putfield 15, 3, 0), (20, .aload_n 0, 1, 0), (21, .iconst 2, 1, 0), (22, .newarray .int, 2, 0), (24, .putfield 19, 3, 0), (27, .aload_n 0, 1, 0), (28, .iload_n 1, 1, 0), (29, .putfield 23, 3, 0), (32, .aload_n 0, 1, 0), (33, .iload_n 2, 1, 0), (34, .putfield 27, 3, 0), (37, .return_, 1, 0)]
/-- NotationReaderModel$Value.<init>(II)V -/
def xM47 : ab_M := (⟨"NotationReaderModel$Value", "<init>", "(II)V"⟩, prog_7_method_1_code, 3, none, 2, false, [], xlk xP47, xC47)
def xP48 : List (Nat × ab_N) := [(7, (6, 4, 0, .null)), (9, (0, 11, 5, .null)), (13, (6, 3, 0, .null)), (15, (0, 11, 6, .null)), (19, (0, 11, 7, .null)), (30, (0, 11, 8, .null))]
def xC48 : List (Nat × Instr × Nat × Nat) := [(0, .aload_n 0, 1, 0), (1, .getfield 30, 3, 0), (4, .aload_n 0, 1, 0), (5, .getfield 9, 3, 0), (8, .arraylength, 1, 0), (9, .if_icmp .ne 107, 3, 116), (12, .iconst 2, 1, 0), (13, .aload_n 0, 1, 0), (14, .getfield 30, 3, 0), (17, .imul, 1, 0), (18, .anewarray 7, 3, 0), (21, .astore 4, 2, 0), (23, .iconst 2, 1, 0), (24, .aload_n 0, 1, 0), (25, .getfield 30, 3, 0), (28, .imul, 1, 0), (29, .anewarray 13, 3, 0), (32, .astore 5, 2, 0), (34, .iconst 2, 1, 0), (35, .aload_n 0, 1, 0), (36, .getfield 30, 3, 0), (39, .imul, 1, 0), (40, .newarray .int, 2, 0), (42, .astore 6, 2, 0), (44, .iconst 0, 1, 0), (45, .istore 7, 2, 0), (47, .iload 7, 2, 0), (49, .aload_n 0, 1, 0), (50, .getfield 30, 3, 0), (53, .if_icmp .ge 45, 3, 98), (56, .aload 4, 2, 0), (58, .iload 7, 2, 0), (60, .aload_n 0, 1, 0), (61, .getfield 9, 3, 0), (64, .iload 7, 2, 0), (66, .aaload, 1, 0), (67, .aastore, 1, 0), (68, .aload 5, 2, 0), (70, .iload 7, 2, 0), (72, .aload_n 0, 1, 0), (73, .getfield 15, 3, 0), (76, .iload 7, 2, 0), (78, .aaload, 1, 0), (79, .aastore, 1, 0), (80, .aload 6, 2, 0), (82, .iload 7, 2, 0), (84, .aload_n 0, 1, 0), (85, .getfield 19, 3, 0), (88, .iload 7, 2, 0), (90, .iaload, 1, 0), (91, .iastore, 1, 0), (92, .iinc 7 1, 3, 0), (95, .goto (-48), 3, 47), (98, .aload_n 0, 1, 0), (99, .aload 4, 2, 0), (101, .putfield 9, 3, 0), (104, .aload_n 0, 1, 0), (105, .aload 5, 2, 0), (107, .putfield 15, 3, 0), (110, .aload_n 0, 1, 0), (111, .aload 6, 2, 0), (113, .putfield 19, 3, 0), (116, .aload_n 0, 1, 0), (117, .getfield 9, 3, 0), (120, .aload_n 0, 1, 0), (121, .getfield 30, 3, 0), (124, .aload_n 3, 1, 0), (125, .aastore, 1, 0), (126, .aload_n 0, 1, 0), (127, .getfield 15, 3, 0), (130, .aload_n 0, 1, 0), (131, .getfield 30, 3, 0), (134, .aload_n 1, 1, 0), (135, .aastore, 1, 0), (136, .aload_n 0, 1, 0), (137, .getfield 19, 3, 0), (140, .aload_n 0, 1, 0), (141, .getfield 30, 3, 0), (144, .iload_n 2, 1, 0), (145, .iastore, 1, 0), (146, .aload_n 0, 1, 0), (147, .dup, 1, 0), (148, .getfield 30, 3, 0), (151, .iconst 1, 1, 0), (152, .iadd, 1, 0), (153, .putfield 30, 3, 0), (156, .return_, 1, 0)]
/-- NotationReaderModel$Value.add(Ljava/lang/String;ILNotationReaderModel$Value;)V -/
def xM48 : ab_M := (⟨"NotationReaderModel$Value", "add", "(Ljava/lang/String;ILNotationReaderModel$Value;)V"⟩, prog_7_method_2_code, 8, none, 3, false, [], xlk xP48, xC48)
def xP49 : List (Nat × ab_N) := [(1, (1, 58, 0, .null)), (9, (0, 4, 0, .null)), (39, (4, 0, 0, .float 59))]
def xC49 : List (Nat × Instr × Nat × Nat) := [(0, .aload_n 0, 1, 0), (1, .invokespecial 1, 3, 0), (4, .aload_n 0, 1, 0), (5, .getstatic 39, 3, 0), (8, .putfield 9, 3, 0), (11, .return_, 1, 0)]
/-- java/util/ArrayList.<init>()V -/
def xM49 : ab_M := (⟨"java/util/ArrayList", "<init>", "()V"⟩, prog_27_method_2_code, 1, none, 0, false, [], xlk xP49, xC49)
def xP50 : List (Nat × ab_N) := [(9, (0, 4, 0, .null)), (48, (0, 4, 1, .null)), (63, (0, 4, 2, .null)), (131, (1, 51, 2, .null))]
def xC50 : List (Nat × Instr × Nat × Nat) := [(0, .aload_n 0, 1, 0), (1, .dup, 1, 0), (2, .getfield 63, 3, 0), (5, .iconst 1, 1, 0), (6, .iadd, 1, 0), (7, .putfield 63, 3, 0), (10, .aload_n 0, 1, 0), (11, .aload_n 1, 1, 0), (12, .aload_n 0, 1, 0), (13, .getfield 9, 3, 0), (16, .aload_n 0, 1, 0), (17, .getfield 48, 3, 0), (20, .invokevirtual 131, 3, 0), (23, .iconst 1, 1, 0), (24, .ireturn, 1, 0)]
/-- java/util/ArrayList.add(Ljava/lang/Object;)Z -/
def xM50 : ab_M := (⟨"java/util/ArrayList", "add", "(Ljava/lang/Object;)Z"⟩, prog_27_method_25_code, 2, some .boolean, 1, false, [], xlk xP50, xC50)
def xP51 : List (Nat × ab_N) := [(48, (0, 4, 1, .null)), (129, (1, 52, 2, .null))]
def xC51 : List (Nat × Instr × Nat × Nat) := [(0, .iload_n 3, 1, 0), (1, .aload_n 2, 1, 0), (2, .arraylength, 1, 0), (3, .if_icmp .ne 8, 3, 11), (6, .aload_n 0, 1, 0), (7, .invokevirtual 129, 3, 0), (10, .astore_n 2, 1, 0), (11, .aload_n 2, 1, 0), (12, .iload_n 3, 1, 0), (13, .aload_n 1, 1, 0), (14, .aastore, 1, 0), (15, .aload_n 0, 1, 0), (16, .iload_n 3, 1, 0), (17, .iconst 1, 1, 0), (18, .iadd, 1, 0), (19, .putfield 48, 3, 0), (22, .return_, 1, 0)]
/-- java/util/ArrayList.add(Ljava/lang/Object;[Ljava/lang/Object;I)V -/
def xM51 : ab_M := (⟨"java/util/ArrayList", "add", "(Ljava/lang/Object;[Ljava/lang/Object;I)V"⟩, prog_27_method_24_code, 4, none, 3, false, [], xlk xP51, xC51)
def xP52 : List (Nat × ab_N) := [(48, (0, 4, 1, .null)), (69, (1, 53, 2, .null))]
def xC52 : List (Nat × Instr × Nat × Nat) := [(0, .aload_n 0, 1, 0), (1, .aload_n 0, 1, 0), (2, .getfield 48, 3, 0), (5, .iconst 1, 1, 0), (6, .iadd, 1, 0), (7, .invokevirtual 69, 3, 0), (10, .areturn, 1, 0)]
/-- java/util/ArrayList.grow()[Ljava/lang/Object; -/
def xM52 : ab_M := (⟨"java/util/ArrayList", "grow", "()[Ljava/lang/Object;"⟩, prog_27_method_7_code, 1, some (.array (.object "java/lang/Object")), 0, false, [], xlk xP52, xC52)
def xP53 : List (Nat × ab_N) := [(7, (6, 5, 0, .null)), (9, (0, 4, 0, .null)), (39, (4, 0, 0, .float 59)), (66, (1, 61, 0, .null)), (73, (1, 60, 0, .null)), (79, (1, 68, 0, .null))]
def xC53 : List (Nat × Instr × Nat × Nat) := [(0, .aload_n 0, 1, 0), (1, .getfield 9, 3, 0), (4, .arraylength, 1, 0), (5, .istore_n 2, 1, 0), (6, .iload_n 2, 1, 0), (7, .ifCond .gt 13, 3, 20), (10, .aload_n 0, 1, 0), (11, .getfield 9, 3, 0), (14, .getstatic 39, 3, 0), (17, .if_acmp .eq 28, 3, 45), (20, .iload_n 2, 1, 0), (21, .iload_n 1, 1, 0), (22, .iload_n 2, 1, 0), (23, .isub, 1, 0), (24, .iload_n 2, 1, 0), (25, .iconst 1, 1, 0), (26, .ishr, 1, 0), (27, .invokestatic 73, 3, 0), (30, .istore_n 3, 1, 0), (31, .aload_n 0, 1, 0), (32, .aload_n 0, 1, 0), (33, .getfield 9, 3, 0), (36, .iload_n 3, 1, 0), (37, .invokestatic 66, 3, 0), (40, .dup_x1, 1, 0), (41, .putfield 9, 3, 0), (44, .areturn, 1, 0), (45, .aload_n 0, 1, 0), (46, .bipush 10, 2, 0), (48, .iload_n 1, 1, 0), (49, .invokestatic 79, 3, 0), (52, .anewarray 7, 3, 0), (55, .dup_x1, 1, 0), (56, .putfield 9, 3, 0), (59, .areturn, 1, 0)]
/-- java/util/ArrayList.grow(I)[Ljava/lang/Object; -/
def xM53 : ab_M := (⟨"java/util/ArrayList", "grow", "(I)[Ljava/lang/Object;"⟩, prog_27_method_6_code, 4, some (.array (.object "java/lang/Object")), 1, false, [], xlk xP53, xC53)
def xP54 : List (Nat × ab_N) := [(9, (0, 4, 0, .null)), (48, (0, 4, 1, .null)), (63, (0, 4, 2, .null))]
def xC54 : List (Nat × Instr × Nat × Nat) := [(0, .aload_n 0, 1, 0), (1, .dup, 1, 0), (2, .getfield 63, 3, 0), (5, .iconst 1, 1, 0), (6, .iadd, 1, 0), (7, .putfield 63, 3, 0), (10, .aload_n 0, 1, 0), (11, .getfield 9, 3, 0), (14, .astore_n 1, 1, 0), (15, .aload_n 0, 1, 0), (16, .getfield 48, 3, 0), (19, .istore_n 2, 1, 0), (20, .aload_n 0, 1, 0), (21, .iconst 0, 1, 0), (22, .dup_x1, 1, 0), (23, .putfield 48, 3, 0), (26, .istore_n 3, 1, 0), (27, .iload_n 3, 1, 0), (28, .iload_n 2, 1, 0), (29, .if_icmp .ge 13, 3, 42), (32, .aload_n 1, 1, 0), (33, .iload_n 3, 1, 0), (34, .aconst_null, 1, 0), (35, .aastore, 1, 0), (36, .iinc 3 1, 3, 0), (39, .goto (-12), 3, 27), (42, .return_, 1, 0)]
/-- java/util/ArrayList.clear()V -/
def xM54 : ab_M := (⟨"java/util/ArrayList", "clear", "()V"⟩, prog_27_method_40_code, 4, none, 0, false, [], xlk xP54, xC54)
def xP55 : List (Nat × ab_N) := [(48, (0, 4, 1, .null)), (118, (1, 69, 0, .null)), (123, (1, 56, 2, .null))]
def xC55 : List (Nat × Instr × Nat × Nat) := [(0, .iload_n 1, 1, 0), (1, .aload_n 0, 1, 0), (2, .getfield 48, 3, 0), (5, .invokestatic 118, 3, 0), (8, .pop, 1, 0), (9, .aload_n 0, 1, 0), (10, .iload_n 1, 1, 0), (11, .invokevirtual 123, 3, 0), (14, .areturn, 1, 0)]
/-- java/util/ArrayList.get(I)Ljava/lang/Object; -/
def xM55 : ab_M := (⟨"java/util/ArrayList", "get", "(I)Ljava/lang/Object;"⟩, prog_27_method_20_code, 2, some (.object "java/lang/Object"), 1, false, [], xlk xP55, xC55)
def xP56 : List (Nat × ab_N) := [(9, (0, 4, 0, .null))]
def xC56 : List (Nat × Instr × Nat × Nat) := [(0, .aload_n 0, 1, 0), (1, .getfield 9, 3, 0), (4, .iload_n 1, 1, 0), (5, .aaload, 1, 0), (6, .areturn, 1, 0)]
/-- java/util/ArrayList.elementData(I)Ljava/lang/Object; -/
def xM56 : ab_M := (⟨"java/util/ArrayList", "elementData", "(I)Ljava/lang/Object;"⟩, prog_27_method_18_code, 2, some (.object "java/lang/Object"), 1, false, [], xlk xP56, xC56)
def xP57 : List (Nat × ab_N) := [(48, (0, 4, 1, .null))]
def xC57 : List (Nat × Instr × Nat × Nat) := [(0, .aload_n 0, 1, 0), (1, .getfield 48, 3, 0), (4, .ireturn, 1, 0)]
/-- java/util/ArrayList.size()I -/
def xM57 : ab_M := (⟨"java/util/ArrayList", "size", "()I"⟩, prog_27_method_8_code, 1, some .int, 0, false, [], xlk xP57, xC57)
def xP58 : List (Nat × ab_N) := [(1, (1, 59, 0, .null)), (7, (0, 4, 2, .null))]
def xC58 : List (Nat × Instr × Nat × Nat) := [(0, .aload_n 0, 1, 0), (1, .invokespecial 1, 3, 0), (4, .aload_n 0, 1, 0), (5, .iconst 0, 1, 0), (6, .putfield 7, 3, 0), (9, .return_, 1, 0)]
/-- java/util/AbstractList.<init>()V -/
def xM58 : ab_M := (⟨"java/util/AbstractList", "<init>", "()V"⟩, prog_26_method_1_code, 1, none, 0, false, [], xlk xP58, xC58)
def xP59 : List (Nat × ab_N) := [(1, (5, 0, 0, .null))]
def xC59 : List (Nat × Instr × Nat × Nat) := [(0, .aload_n 0, 1, 0), (1, .invokespecial 1, 3, 0), (4, .return_, 1, 0)]
/-- java/util/AbstractCollection.<init>()V -/
def xM59 : ab_M := (⟨"java/util/AbstractCollection", "<init>", "()V"⟩, prog_25_method_1_code, 1, none, 0, false, [], xlk xP59, xC59)
def xP60 : List (Nat × ab_N) := [(194, (1, 68, 0, .null)), (200, (3, 0, 0, .int 2147483639))]
def xC60 : List (Nat × Instr × Nat × Nat) := [(0, .iload_n 0, 1, 0), (1, .iload_n 1, 1, 0), (2, .iload_n 2, 1, 0), (3, .invokestatic 194, 3, 0), (6, .iadd, 1, 0), (7, .istore_n 3, 1, 0), (8, .iconst 0, 1, 0), (9, .iload_n 3, 1, 0), (10, .if_icmp .ge 11, 3, 21), (13, .iload_n 3, 1, 0), (14, .ldc 200, 2, 0), (16, .if_icmp .gt 5, 3, 21), (19, .iload_n 3, 1, 0), (20, .ireturn, 1, 0), (21, .iload_n 0, 1, 0), (22, .iload_n 1, 1, 0), (23, .invokestatic 201, 3, 0), (26, .ireturn, 1, 0)]
/-- jdk/internal/util/ArraysSupport.newLength(III)I -/
def xM60 : ab_M := (⟨"jdk/internal/util/ArraysSupport", "newLength", "(III)I"⟩, prog_35_method_27_code, 4, some .int, 3, true, [], xlk xP60, xC60)
def xP61 : List (Nat × ab_N) := [(86, (16, 5, 0, .float 60)), (300, (1, 62, 0, .null))]
def xC61 : List (Nat × Instr × Nat × Nat) := [(0, .aload_n 0, 1, 0), (1, .iload_n 1, 1, 0), (2, .aload_n 0, 1, 0), (3, .invokevirtual 86, 3, 0), (6, .invokestatic 300, 3, 0), (9, .areturn, 1, 0)]
/-- java/util/Arrays.copyOf([Ljava/lang/Object;I)[Ljava/lang/Object; -/
def xM61 : ab_M := (⟨"java/util/Arrays", "copyOf", "([Ljava/lang/Object;I)[Ljava/lang/Object;"⟩, prog_28_method_119_code, 2, some (.array (.object "java/lang/Object")), 2, true, [], xlk xP61, xC61)
def xP62 : List (Nat × ab_N) := [(2, (6, 5, 0, .null)), (110, (15, 0, 0, .float 60)), (150, (18, 0, 0, .null)), (304, (1, 67, 0, .null))]
def xC62 : List (Nat × Instr × Nat × Nat) := [(0, .aload_n 2, 1, 0), (1, .ldc 110, 2, 0), (3, .if_acmp .ne 10, 3, 13), (6, .iload_n 1, 1, 0), (7, .anewarray 2, 3, 0), (10, .goto 14, 3, 24), (13, .aload_n 2, 1, 0), (14, .invokevirtual 90, 3, 0), (17, .iload_n 1, 1, 0), (18, .invokestatic 95, 3, 0), (21, .checkcast 110, 3, 0), (24, .astore_n 3, 1, 0), (25, .aload_n 0, 1, 0), (26, .iconst 0, 1, 0), (27, .aload_n 3, 1, 0), (28, .iconst 0, 1, 0), (29, .aload_n 0, 1, 0), (30, .arraylength, 1, 0), (31, .iload_n 1, 1, 0), (32, .invokestatic 304, 3, 0), (35, .invokestatic 150, 3, 0), (38, .aload_n 3, 1, 0), (39, .areturn, 1, 0)]
/-- java/util/Arrays.copyOf([Ljava/lang/Object;ILjava/lang/Class;)[Ljava/lang/Object; -/
def xM62 : ab_M := (⟨"java/util/Arrays", "copyOf", "([Ljava/lang/Object;ILjava/lang/Class;)[Ljava/lang/Object;"⟩, prog_28_method_120_code, 4, some (.array (.object "java/lang/Object")), 3, true, [], xlk xP62, xC62)
def xP63 : List (Nat × ab_N) := [(150, (18, 0, 0, .null)), (304, (1, 67, 0, .null)), (310, (19, 0, 0, .null)), (311, (24, 0, 0, .null))]
def xC63 : List (Nat × Instr × Nat × Nat) := [(0, .iload_n 1, 1, 0), (1, .aload_n 0, 1, 0), (2, .arraylength, 1, 0), (3, .if_icmp .ne 11, 3, 14), (6, .aload_n 0, 1, 0), (7, .invokevirtual 310, 3, 0), (10, .checkcast 311, 3, 0), (13, .areturn, 1, 0), (14, .iload_n 1, 1, 0), (15, .newarray .byte, 2, 0), (17, .astore_n 2, 1, 0), (18, .aload_n 0, 1, 0), (19, .iconst 0, 1, 0), (20, .aload_n 2, 1, 0), (21, .iconst 0, 1, 0), (22, .aload_n 0, 1, 0), (23, .arraylength, 1, 0), (24, .iload_n 1, 1, 0), (25, .invokestatic 304, 3, 0), (28, .invokestatic 150, 3, 0), (31, .aload_n 2, 1, 0), (32, .areturn, 1, 0)]
/-- java/util/Arrays.copyOf([BI)[B -/
def xM63 : ab_M := (⟨"java/util/Arrays", "copyOf", "([BI)[B"⟩, prog_28_method_121_code, 3, some (.array .byte), 2, true, [], xlk xP63, xC63)
def xP64 : List (Nat × ab_N) := [(310, (19, 0, 0, .null)), (311, (24, 0, 0, .null)), (339, (1, 65, 0, .null))]
def xC64 : List (Nat × Instr × Nat × Nat) := [(0, .iload_n 1, 1, 0), (1, .ifCond .ne 9, 3, 10), (4, .iload_n 2, 1, 0), (5, .aload_n 0, 1, 0), (6, .arraylength, 1, 0), (7, .if_icmp .eq 10, 3, 17), (10, .aload_n 0, 1, 0), (11, .iload_n 1, 1, 0), (12, .iload_n 2, 1, 0), (13, .invokestatic 339, 3, 0), (16, .areturn, 1, 0), (17, .aload_n 0, 1, 0), (18, .invokevirtual 310, 3, 0), (21, .checkcast 311, 3, 0), (24, .areturn, 1, 0)]
/-- java/util/Arrays.copyOfRange([BII)[B -/
def xM64 : ab_M := (⟨"java/util/Arrays", "copyOfRange", "([BII)[B"⟩, prog_28_method_132_code, 3, some (.array .byte), 3, true, [], xlk xP64, xC64)
def xP65 : List (Nat × ab_N) := [(150, (18, 0, 0, .null)), (304, (1, 67, 0, .null)), (343, (1, 66, 0, .null))]
def xC65 : List (Nat × Instr × Nat × Nat) := [(0, .iload_n 1, 1, 0), (1, .iload_n 2, 1, 0), (2, .invokestatic 343, 3, 0), (5, .iload_n 2, 1, 0), (6, .iload_n 1, 1, 0), (7, .isub, 1, 0), (8, .istore_n 3, 1, 0), (9, .iload_n 3, 1, 0), (10, .newarray .byte, 2, 0), (12, .astore 4, 2, 0), (14, .aload_n 0, 1, 0), (15, .iload_n 1, 1, 0), (16, .aload 4, 2, 0), (18, .iconst 0, 1, 0), (19, .aload_n 0, 1, 0), (20, .arraylength, 1, 0), (21, .iload_n 1, 1, 0), (22, .isub, 1, 0), (23, .iload_n 3, 1, 0), (24, .invokestatic 304, 3, 0), (27, .invokestatic 150, 3, 0), (30, .aload 4, 2, 0), (32, .areturn, 1, 0)]
/-- java/util/Arrays.copyOfRangeByte([BII)[B -/
def xM65 : ab_M := (⟨"java/util/Arrays", "copyOfRangeByte", "([BII)[B"⟩, prog_28_method_133_code, 5, some (.array .byte), 3, true, [], xlk xP65, xC65)
def xP66 : List (Nat × ab_N) := [(43, (9, 6, 0, .null)), (45, (2, 12, 0, .null)), (47, (1, 82, 0, .null)), (61, (1, 84, 2, .null)), (65, (10, 6, 0, .null)), (337, (7, 0, 0, .float 58))]
def xC66 : List (Nat × Instr × Nat × Nat) := [(0, .iload_n 1, 1, 0), (1, .iload_n 0, 1, 0), (2, .if_icmp .ge 35, 3, 37), (5, .new 43, 3, 0), (8, .dup, 1, 0), (9, .new 45, 3, 0), (12, .dup, 1, 0), (13, .invokespecial 47, 3, 0), (16, .iload_n 0, 1, 0), (17, .invokevirtual 54, 3, 0), (20, .ldc_w 337, 3, 0), (23, .invokevirtual 50, 3, 0), (26, .iload_n 1, 1, 0), (27, .invokevirtual 54, 3, 0), (30, .invokevirtual 61, 3, 0), (33, .invokespecial 65, 3, 0), (36, .athrow, 1, 0), (37, .return_, 1, 0)]
/-- java/util/Arrays.checkLength(II)V -/
def xM66 : ab_M := (⟨"java/util/Arrays", "checkLength", "(II)V"⟩, prog_28_method_131_code, 2, none, 2, true, [], xlk xP66, xC66)
def xP67 : List (Nat × ab_N) := []
def xC67 : List (Nat × Instr × Nat × Nat) := [(0, .iload_n 0, 1, 0), (1, .iload_n 1, 1, 0), (2, .if_icmp .gt 7, 3, 9), (5, .iload_n 0, 1, 0), (6, .goto 4, 3, 10), (9, .iload_n 1, 1, 0), (10, .ireturn, 1, 0)]
/-- java/lang/Math.min(II)I -/
def xM67 : ab_M := (⟨"java/lang/Math", "min", "(II)I"⟩, prog_16_method_69_code, 2, some .int, 2, true, [], xlk xP67, xC67)
def xP68 : List (Nat × ab_N) := []
def xC68 : List (Nat × Instr × Nat × Nat) := [(0, .iload_n 0, 1, 0), (1, .iload_n 1, 1, 0), (2, .if_icmp .lt 7, 3, 9), (5, .iload_n 0, 1, 0), (6, .goto 4, 3, 10), (9, .iload_n 1, 1, 0), (10, .ireturn, 1, 0)]
/-- java/lang/Math.max(II)I -/
def xM68 : ab_M := (⟨"java/lang/Math", "max", "(II)I"⟩, prog_16_method_65_code, 2, some .int, 2, true, [], xlk xP68, xC68)
def xP69 : List (Nat × ab_N) := [(105, (1, 70, 0, .null))]
def xC69 : List (Nat × Instr × Nat × Nat) := [(0, .iload_n 0, 1, 0), (1, .iload_n 1, 1, 0), (2, .aconst_null, 1, 0), (3, .invokestatic 105, 3, 0), (6, .ireturn, 1, 0)]
/-- java/util/Objects.checkIndex(II)I -/
def xM69 : ab_M := (⟨"java/util/Objects", "checkIndex", "(II)I"⟩, prog_32_method_17_code, 2, some .int, 2, true, [], xlk xP69, xC69)
def xP70 : List (Nat × ab_N) := []
def xC70 : List (Nat × Instr × Nat × Nat) := [(0, .iload_n 0, 1, 0), (1, .ifCond .lt 8, 3, 9), (4, .iload_n 0, 1, 0), (5, .iload_n 1, 1, 0), (6, .if_icmp .lt 10, 3, 16), (9, .aload_n 2, 1, 0), (10, .iload_n 0, 1, 0), (11, .iload_n 1, 1, 0), (12, .invokestatic 95, 3, 0), (15, .athrow, 1, 0), (16, .iload_n 0, 1, 0), (17, .ireturn, 1, 0)]
/-- jdk/internal/util/Preconditions.checkIndex(IILjava/util/function/BiFunction;)I -/
def xM70 : ab_M := (⟨"jdk/internal/util/Preconditions", "checkIndex", "(IILjava/util/function/BiFunction;)I"⟩, prog_36_method_11_code, 3, some .int, 3, true, [], xlk xP70, xC70)
def xP71 : List (Nat × ab_N) := [(9, (0, 9, 0, .int 1)), (335, (1, 72, 2, .null))]
def xC71 : List (Nat × Instr × Nat × Nat) := [(0, .aload_n 0, 1, 0), (1, .getfield 9, 3, 0), (4, .arraylength, 1, 0), (5, .aload_n 0, 1, 0), (6, .invokevirtual 335, 3, 0), (9, .ishr, 1, 0), (10, .ireturn, 1, 0)]
/-- java/lang/String.length()I -/
def xM71 : ab_M := (⟨"java/lang/String", "length", "()I"⟩, prog_18_method_54_code, 1, some .int, 0, false, [], xlk xP71, xC71)
def xP72 : List (Nat × ab_N) := [(15, (0, 9, 1, .int 1)), (38, (4, 0, 0, .int 1))]
def xC72 : List (Nat × Instr × Nat × Nat) := [(0, .getstatic 38, 3, 0), (3, .ifCond .eq 10, 3, 13), (6, .aload_n 0, 1, 0), (7, .getfield 15, 3, 0), (10, .goto 4, 3, 14), (13, .iconst 1, 1, 0), (14, .ireturn, 1, 0)]
/-- java/lang/String.coder()B -/
def xM72 : ab_M := (⟨"java/lang/String", "coder", "()B"⟩, prog_18_method_152_code, 1, some .byte, 0, false, [], xlk xP72, xC72)
def xP73 : List (Nat × ab_N) := [(15, (0, 9, 1, .int 1)), (38, (4, 0, 0, .int 1))]
def xC73 : List (Nat × Instr × Nat × Nat) := [(0, .getstatic 38, 3, 0), (3, .ifCond .eq 14, 3, 17), (6, .aload_n 0, 1, 0), (7, .getfield 15, 3, 0), (10, .ifCond .ne 7, 3, 17), (13, .iconst 1, 1, 0), (14, .goto 4, 3, 18), (17, .iconst 0, 1, 0), (18, .ireturn, 1, 0)]
/-- java/lang/String.isLatin1()Z -/
def xM73 : ab_M := (⟨"java/lang/String", "isLatin1", "()Z"⟩, prog_18_method_154_code, 1, some .boolean, 0, false, [], xlk xP73, xC73)
def xP74 : List (Nat × ab_N) := [(9, (0, 9, 0, .int 1)), (492, (1, 73, 2, .null)), (495, (1, 79, 0, .null))]
def xC74 : List (Nat × Instr × Nat × Nat) := [(0, .aload_n 0, 1, 0), (1, .invokevirtual 492, 3, 0), (4, .ifCond .eq 12, 3, 16), (7, .aload_n 0, 1, 0), (8, .getfield 9, 3, 0), (11, .iload_n 1, 1, 0), (12, .invokestatic 495, 3, 0), (15, .ireturn, 1, 0), (16, .aload_n 0, 1, 0), (17, .getfield 9, 3, 0), (20, .iload_n 1, 1, 0), (21, .invokestatic 498, 3, 0), (24, .ireturn, 1, 0)]
/-- java/lang/String.charAt(I)C -/
def xM74 : ab_M := (⟨"java/lang/String", "charAt", "(I)C"⟩, prog_18_method_56_code, 2, some .char, 1, false, [], xlk xP74, xC74)
def xP75 (vS : Value) : List (Nat × ab_N) := [(1053, (4, 0, 0, vS)), (1059, (1, 70, 0, .null))]
def xC75 : List (Nat × Instr × Nat × Nat) := [(0, .iload_n 0, 1, 0), (1, .iload_n 1, 1, 0), (2, .getstatic 1053, 3, 0), (5, .invokestatic 1059, 3, 0), (8, .pop, 1, 0), (9, .return_, 1, 0)]
/-- java/lang/String.checkIndex(II)V -/
def xM75 (vS : Value) : ab_M := (⟨"java/lang/String", "checkIndex", "(II)V"⟩, prog_18_method_155_code, 2, none, 2, true, [], xlk (xP75 vS), xC75)
def xP76 : List (Nat × ab_N) := [(9, (0, 9, 0, .int 1)), (10, (12, 9, 0, .null)), (15, (0, 9, 1, .int 1)), (38, (4, 0, 0, .int 1)), (541, (1, 80, 0, .null))]
def xC76 : List (Nat × Instr × Nat × Nat) := [(0, .aload_n 0, 1, 0), (1, .aload_n 1, 1, 0), (2, .if_acmp .ne 5, 3, 7), (5, .iconst 1, 1, 0), (6, .ireturn, 1, 0), (7, .aload_n 1, 1, 0), (8, .instanceof 10, 3, 0), (11, .ifCond .eq 43, 3, 54), (14, .aload_n 1, 1, 0), (15, .checkcast 10, 3, 0), (18, .astore_n 2, 1, 0), (19, .getstatic 38, 3, 0), (22, .ifCond .eq 14, 3, 36), (25, .aload_n 0, 1, 0), (26, .getfield 15, 3, 0), (29, .aload_n 2, 1, 0), (30, .getfield 15, 3, 0), (33, .if_icmp .ne 21, 3, 54), (36, .aload_n 0, 1, 0), (37, .getfield 9, 3, 0), (40, .aload_n 2, 1, 0), (41, .getfield 9, 3, 0), (44, .invokestatic 541, 3, 0), (47, .ifCond .eq 7, 3, 54), (50, .iconst 1, 1, 0), (51, .goto 4, 3, 55), (54, .iconst 0, 1, 0), (55, .ireturn, 1, 0)]
/-- java/lang/String.equals(Ljava/lang/Object;)Z -/
def xM76 : ab_M := (⟨"java/lang/String", "equals", "(Ljava/lang/Object;)Z"⟩, prog_18_method_66_code, 3, some .boolean, 1, false, [], xlk xP76, xC76)
def xP77 : List (Nat × ab_N) := [(489, (1, 78, 0, .null))]
def xC77 : List (Nat × Instr × Nat × Nat) := [(0, .aload_n 0, 1, 0), (1, .aload_n 1, 1, 0), (2, .aconst_null, 1, 0), (3, .invokespecial 489, 3, 0), (6, .return_, 1, 0)]
/-- java/lang/String.<init>(Ljava/lang/StringBuilder;)V -/
def xM77 : ab_M := (⟨"java/lang/String", "<init>", "(Ljava/lang/StringBuilder;)V"⟩, prog_18_method_53_code, 2, none, 1, false, [], xlk xP77, xC77)
def xP78 : List (Nat × ab_N) := [(1, (5, 0, 0, .null)), (9, (0, 9, 0, .int 1)), (15, (0, 9, 1, .int 1)), (38, (4, 0, 0, .int 1)), (54, (1, 64, 0, .null)), (549, (20, 85, 12, .null)), (552, (20, 91, 12, .null)), (1047, (20, 90, 12, .null)), (1048, (0, 12, 2, .null))]
def xC78 : List (Nat × Instr × Nat × Nat) := [(0, .aload_n 0, 1, 0), (1, .invokespecial 1, 3, 0), (4, .aload_n 1, 1, 0), (5, .invokevirtual 552, 3, 0), (8, .astore_n 3, 1, 0), (9, .aload_n 1, 1, 0), (10, .invokevirtual 549, 3, 0), (13, .istore 4, 2, 0), (15, .aload_n 1, 1, 0), (16, .invokevirtual 1047, 3, 0), (19, .ifCond .eq 22, 3, 41), (22, .aload_n 0, 1, 0), (23, .iconst 0, 1, 0), (24, .putfield 15, 3, 0), (27, .aload_n 0, 1, 0), (28, .aload_n 3, 1, 0), (29, .iconst 0, 1, 0), (30, .iload 4, 2, 0), (32, .invokestatic 54, 3, 0), (35, .putfield 9, 3, 0), (38, .goto 59, 3, 97), (41, .getstatic 38, 3, 0), (44, .ifCond .eq 35, 3, 79), (47, .aload_n 1, 1, 0), (48, .getfield 1048, 3, 0), (51, .ifCond .eq 28, 3, 79), (54, .aload_n 0, 1, 0), (55, .aload_n 3, 1, 0), (56, .iconst 0, 1, 0), (57, .iload 4, 2, 0), (59, .invokestatic 1051, 3, 0), (62, .putfield 9, 3, 0), (65, .aload_n 0, 1, 0), (66, .aload_n 0, 1, 0), (67, .getfield 9, 3, 0), (70, .iload 4, 2, 0), (72, .invokestatic 47, 3, 0), (75, .putfield 15, 3, 0), (78, .return_, 1, 0), (79, .aload_n 0, 1, 0), (80, .iconst 1, 1, 0), (81, .putfield 15, 3, 0), (84, .aload_n 0, 1, 0), (85, .aload_n 3, 1, 0), (86, .iconst 0, 1, 0), (87, .iload 4, 2, 0), (89, .iconst 1, 1, 0), (90, .ishl, 1, 0), (91, .invokestatic 54, 3, 0), (94, .putfield 9, 3, 0), (97, .return_, 1, 0)]
/-- java/lang/String.<init>(Ljava/lang/AbstractStringBuilder;Ljava/lang/Void;)V -/
def xM78 : ab_M := (⟨"java/lang/String", "<init>", "(Ljava/lang/AbstractStringBuilder;Ljava/lang/Void;)V"⟩, prog_18_method_150_code, 5, none, 2, false, [], xlk xP78, xC78)
def xP79 : List (Nat × ab_N) := [(9, (1, 75, 0, .null))]
def xC79 : List (Nat × Instr × Nat × Nat) := [(0, .iload_n 1, 1, 0), (1, .aload_n 0, 1, 0), (2, .arraylength, 1, 0), (3, .invokestatic 9, 3, 0), (6, .aload_n 0, 1, 0), (7, .iload_n 1, 1, 0), (8, .baload, 1, 0), (9, .sipush 255, 3, 0), (12, .iand, 1, 0), (13, .i2c, 1, 0), (14, .ireturn, 1, 0)]
/-- java/lang/StringLatin1.charAt([BI)C -/
def xM79 : ab_M := (⟨"java/lang/StringLatin1", "charAt", "([BI)C"⟩, prog_20_method_2_code, 2, some .char, 2, true, [], xlk xP79, xC79)
def xP80 : List (Nat × ab_N) := []
def xC80 : List (Nat × Instr × Nat × Nat) := [(0, .aload_n 0, 1, 0), (1, .arraylength, 1, 0), (2, .aload_n 1, 1, 0), (3, .arraylength, 1, 0), (4, .if_icmp .ne 30, 3, 34), (7, .iconst 0, 1, 0), (8, .istore_n 2, 1, 0), (9, .iload_n 2, 1, 0), (10, .aload_n 0, 1, 0), (11, .arraylength, 1, 0), (12, .if_icmp .ge 20, 3, 32), (15, .aload_n 0, 1, 0), (16, .iload_n 2, 1, 0), (17, .baload, 1, 0), (18, .aload_n 1, 1, 0), (19, .iload_n 2, 1, 0), (20, .baload, 1, 0), (21, .if_icmp .eq 5, 3, 26), (24, .iconst 0, 1, 0), (25, .ireturn, 1, 0), (26, .iinc 2 1, 3, 0), (29, .goto (-20), 3, 9), (32, .iconst 1, 1, 0), (33, .ireturn, 1, 0), (34, .iconst 0, 1, 0), (35, .ireturn, 1, 0)]
/-- java/lang/StringLatin1.equals([B[B)Z -/
def xM80 : ab_M := (⟨"java/lang/StringLatin1", "equals", "([B[B)Z"⟩, prog_20_method_13_code, 3, some .boolean, 2, true, [], xlk xP80, xC80)
def xP81 : List (Nat × ab_N) := []
def xC81 : List (Nat × Instr × Nat × Nat) := [(0, .iload_n 0, 1, 0), (1, .sipush 255, 3, 0), (4, .if_icmp .gt 7, 3, 11), (7, .iconst 1, 1, 0), (8, .goto 4, 3, 12), (11, .iconst 0, 1, 0), (12, .ireturn, 1, 0)]
/-- java/lang/StringLatin1.canEncode(C)Z -/
def xM81 : ab_M := (⟨"java/lang/StringLatin1", "canEncode", "(C)Z"⟩, prog_20_method_3_code, 1, some .boolean, 1, true, [], xlk xP81, xC81)
def xP82 : List (Nat × ab_N) := [(1, (1, 86, 0, .null))]
def xC82 : List (Nat × Instr × Nat × Nat) := [(0, .aload_n 0, 1, 0), (1, .bipush 16, 2, 0), (3, .invokespecial 1, 3, 0), (6, .return_, 1, 0)]
/-- java/lang/StringBuilder.<init>()V -/
def xM82 : ab_M := (⟨"java/lang/StringBuilder", "<init>", "()V"⟩, prog_19_method_1_code, 1, none, 0, false, [], xlk xP82, xC82)
def xP83 : List (Nat × ab_N) := [(50, (21, 87, 0, .null))]
def xC83 : List (Nat × Instr × Nat × Nat) := [(0, .aload_n 0, 1, 0), (1, .iload_n 1, 1, 0), (2, .invokespecial 50, 3, 0), (5, .pop, 1, 0), (6, .aload_n 0, 1, 0), (7, .areturn, 1, 0)]
/-- java/lang/StringBuilder.append(C)Ljava/lang/StringBuilder; -/
def xM83 : ab_M := (⟨"java/lang/StringBuilder", "append", "(C)Ljava/lang/StringBuilder;"⟩, prog_19_method_14_code, 2, some (.object "java/lang/StringBuilder"), 1, false, [], xlk xP83, xC83)
def xP84 : List (Nat × ab_N) := [(18, (2, 9, 0, .null)), (137, (1, 77, 0, .null))]
def xC84 : List (Nat × Instr × Nat × Nat) := [(0, .new 18, 3, 0), (3, .dup, 1, 0), (4, .aload_n 0, 1, 0), (5, .invokespecial 137, 3, 0), (8, .areturn, 1, 0)]
/-- java/lang/StringBuilder.toString()Ljava/lang/String; -/
def xM84 : ab_M := (⟨"java/lang/StringBuilder", "toString", "()Ljava/lang/String;"⟩, prog_19_method_42_code, 1, some (.object "java/lang/String"), 0, false, [], xlk xP84, xC84)
def xP85 : List (Nat × ab_N) := [(343, (21, 92, 0, .null))]
def xC85 : List (Nat × Instr × Nat × Nat) := [(0, .aload_n 0, 1, 0), (1, .invokespecial 343, 3, 0), (4, .ireturn, 1, 0)]
/-- java/lang/StringBuilder.length()I -/
def xM85 : ab_M := (⟨"java/lang/StringBuilder", "length", "()I"⟩, prog_19_method_93_code, 1, some .int, 0, false, [], xlk xP85, xC85)
def xP86 : List (Nat × ab_N) := [(3, (5, 0, 0, .null)), (15, (0, 12, 0, .null)), (18, (4, 0, 0, .int 1)), (22, (0, 12, 1, .null))]
def xC86 : List (Nat × Instr × Nat × Nat) := [(0, .aload_n 0, 1, 0), (1, .invokespecial 3, 3, 0), (4, .getstatic 18, 3, 0), (7, .ifCond .eq 18, 3, 25), (10, .aload_n 0, 1, 0), (11, .iload_n 1, 1, 0), (12, .newarray .byte, 2, 0), (14, .putfield 15, 3, 0), (17, .aload_n 0, 1, 0), (18, .iconst 0, 1, 0), (19, .putfield 22, 3, 0), (22, .goto 16, 3, 38), (25, .aload_n 0, 1, 0), (26, .iload_n 1, 1, 0), (27, .invokestatic 26, 3, 0), (30, .putfield 15, 3, 0), (33, .aload_n 0, 1, 0), (34, .iconst 1, 1, 0), (35, .putfield 22, 3, 0), (38, .return_, 1, 0)]
/-- java/lang/AbstractStringBuilder.<init>(I)V -/
def xM86 : ab_M := (⟨"java/lang/AbstractStringBuilder", "<init>", "(I)V"⟩, prog_9_method_2_code, 2, none, 1, false, [], xlk xP86, xC86)
def xP87 : List (Nat × ab_N) := [(15, (0, 12, 0, .null)), (79, (0, 12, 3, .null)), (83, (20, 90, 12, .null)), (100, (20, 88, 12, .null)), (191, (1, 81, 0, .null))]
def xC87 : List (Nat × Instr × Nat × Nat) := [(0, .aload_n 0, 1, 0), (1, .aload_n 0, 1, 0), (2, .getfield 79, 3, 0), (5, .iconst 1, 1, 0), (6, .iadd, 1, 0), (7, .invokevirtual 100, 3, 0), (10, .aload_n 0, 1, 0), (11, .invokevirtual 83, 3, 0), (14, .ifCond .eq 31, 3, 45), (17, .iload_n 1, 1, 0), (18, .invokestatic 191, 3, 0), (21, .ifCond .eq 24, 3, 45), (24, .aload_n 0, 1, 0), (25, .getfield 15, 3, 0), (28, .aload_n 0, 1, 0), (29, .dup, 1, 0), (30, .getfield 79, 3, 0), (33, .dup_x1, 1, 0), (34, .iconst 1, 1, 0), (35, .iadd, 1, 0), (36, .putfield 79, 3, 0), (39, .iload_n 1, 1, 0), (40, .i2b, 1, 0), (41, .bastore, 1, 0), (42, .goto 33, 3, 75), (45, .aload_n 0, 1, 0), (46, .invokevirtual 83, 3, 0), (49, .ifCond .eq 7, 3, 56), (52, .aload_n 0, 1, 0), (53, .invokevirtual 195, 3, 0), (56, .aload_n 0, 1, 0), (57, .getfield 15, 3, 0), (60, .aload_n 0, 1, 0), (61, .dup, 1, 0), (62, .getfield 79, 3, 0), (65, .dup_x1, 1, 0), (66, .iconst 1, 1, 0), (67, .iadd, 1, 0), (68, .putfield 79, 3, 0), (71, .iload_n 1, 1, 0), (72, .invokestatic 197, 3, 0), (75, .aload_n 0, 1, 0), (76, .areturn, 1, 0)]
/-- java/lang/AbstractStringBuilder.append(C)Ljava/lang/AbstractStringBuilder; -/
def xM87 : ab_M := (⟨"java/lang/AbstractStringBuilder", "append", "(C)Ljava/lang/AbstractStringBuilder;"⟩, prog_9_method_31_code, 2, some (.object "java/lang/AbstractStringBuilder"), 1, false, [], xlk xP87, xC87)
def xP88 : List (Nat × ab_N) := [(15, (0, 12, 0, .null)), (22, (0, 12, 1, .null)), (104, (20, 89, 12, .null)), (108, (1, 63, 0, .null))]
def xC88 : List (Nat × Instr × Nat × Nat) := [(0, .aload_n 0, 1, 0), (1, .getfield 15, 3, 0), (4, .arraylength, 1, 0), (5, .aload_n 0, 1, 0), (6, .getfield 22, 3, 0), (9, .ishr, 1, 0), (10, .istore_n 2, 1, 0), (11, .iload_n 1, 1, 0), (12, .iload_n 2, 1, 0), (13, .isub, 1, 0), (14, .ifCond .le 24, 3, 38), (17, .aload_n 0, 1, 0), (18, .aload_n 0, 1, 0), (19, .getfield 15, 3, 0), (22, .aload_n 0, 1, 0), (23, .iload_n 1, 1, 0), (24, .invokevirtual 104, 3, 0), (27, .aload_n 0, 1, 0), (28, .getfield 22, 3, 0), (31, .ishl, 1, 0), (32, .invokestatic 108, 3, 0), (35, .putfield 15, 3, 0), (38, .return_, 1, 0)]
/-- java/lang/AbstractStringBuilder.ensureCapacityInternal(I)V -/
def xM88 : ab_M := (⟨"java/lang/AbstractStringBuilder", "ensureCapacityInternal", "(I)V"⟩, prog_9_method_9_code, 3, none, 1, false, [], xlk xP88, xC88)
def xP89 : List (Nat × ab_N) := [(15, (0, 12, 0, .null)), (22, (0, 12, 1, .null)), (39, (3, 0, 0, .int 2147483647)), (114, (1, 60, 0, .null))]
def xC89 : List (Nat × Instr × Nat × Nat) := [(0, .aload_n 0, 1, 0), (1, .getfield 15, 3, 0), (4, .arraylength, 1, 0), (5, .istore_n 2, 1, 0), (6, .iload_n 1, 1, 0), (7, .aload_n 0, 1, 0), (8, .getfield 22, 3, 0), (11, .ishl, 1, 0), (12, .istore_n 3, 1, 0), (13, .iload_n 3, 1, 0), (14, .iload_n 2, 1, 0), (15, .isub, 1, 0), (16, .istore 4, 2, 0), (18, .iload_n 2, 1, 0), (19, .iload 4, 2, 0), (21, .iload_n 2, 1, 0), (22, .iconst 2, 1, 0), (23, .aload_n 0, 1, 0), (24, .getfield 22, 3, 0), (27, .ishl, 1, 0), (28, .iadd, 1, 0), (29, .invokestatic 114, 3, 0), (32, .istore 5, 2, 0), (34, .iload 5, 2, 0), (36, .ldc 39, 2, 0), (38, .if_icmp .ne 13, 3, 51), (41, .new 120, 3, 0), (44, .dup, 1, 0), (45, .ldc 122, 2, 0), (47, .invokespecial 124, 3, 0), (50, .athrow, 1, 0), (51, .iload 5, 2, 0), (53, .aload_n 0, 1, 0), (54, .getfield 22, 3, 0), (57, .ishr, 1, 0), (58, .ireturn, 1, 0)]
/-- java/lang/AbstractStringBuilder.newCapacity(I)I -/
def xM89 : ab_M := (⟨"java/lang/AbstractStringBuilder", "newCapacity", "(I)I"⟩, prog_9_method_10_code, 6, some .int, 1, false, [], xlk xP89, xC89)
def xP90 : List (Nat × ab_N) := [(18, (4, 0, 0, .int 1)), (22, (0, 12, 1, .null))]
def xC90 : List (Nat × Instr × Nat × Nat) := [(0, .getstatic 18, 3, 0), (3, .ifCond .eq 14, 3, 17), (6, .aload_n 0, 1, 0), (7, .getfield 22, 3, 0), (10, .ifCond .ne 7, 3, 17), (13, .iconst 1, 1, 0), (14, .goto 4, 3, 18), (17, .iconst 0, 1, 0), (18, .ireturn, 1, 0)]
/-- java/lang/AbstractStringBuilder.isLatin1()Z -/
def xM90 : ab_M := (⟨"java/lang/AbstractStringBuilder", "isLatin1", "()Z"⟩, prog_9_method_68_code, 1, some .boolean, 0, false, [], xlk xP90, xC90)
def xP91 : List (Nat × ab_N) := [(15, (0, 12, 0, .null))]
def xC91 : List (Nat × Instr × Nat × Nat) := [(0, .aload_n 0, 1, 0), (1, .getfield 15, 3, 0), (4, .areturn, 1, 0)]
/-- java/lang/AbstractStringBuilder.getValue()[B -/
def xM91 : ab_M := (⟨"java/lang/AbstractStringBuilder", "getValue", "()[B"⟩, prog_9_method_64_code, 1, some (.array .byte), 0, false, [], xlk xP91, xC91)
def xP92 : List (Nat × ab_N) := [(79, (0, 12, 3, .null))]
def xC92 : List (Nat × Instr × Nat × Nat) := [(0, .aload_n 0, 1, 0), (1, .getfield 79, 3, 0), (4, .ireturn, 1, 0)]
/-- java/lang/AbstractStringBuilder.length()I -/
def xM92 : ab_M := (⟨"java/lang/AbstractStringBuilder", "length", "()I"⟩, prog_9_method_6_code, 1, some .int, 0, false, [], xlk xP92, xC92)
def xP93 : List (Nat × ab_N) := [(1, (5, 0, 0, .null)), (7, (2, 1, 0, .null)), (9, (1, 122, 0, .null)), (10, (0, 0, 0, .int 1)), (16, (2, 4, 0, .null)), (18, (1, 49, 0, .null)), (19, (0, 0, 1, .int 1)), (23, (0, 0, 2, .null))]
def xC93 : List (Nat × Instr × Nat × Nat) := [(0, .aload_n 0, 1, 0), (1, .invokespecial 1, 3, 0), (4, .aload_n 0, 1, 0), (5, .new 7, 3, 0), (8, .dup, 1, 0), (9, .invokespecial 9, 3, 0), (12, .putfield 10, 3, 0), (15, .aload_n 0, 1, 0), (16, .new 16, 3, 0), (19, .dup, 1, 0), (20, .invokespecial 18, 3, 0), (23, .putfield 19, 3, 0), (26, .aload_n 0, 1, 0), (27, .iconst (-1), 1, 0), (28, .putfield 23, 3, 0), (31, .return_, 1, 0)]
/-- NotationReader.<init>()V -/
def xM93 : ab_M := (⟨"NotationReader", "<init>", "()V"⟩, prog_1_method_1_code, 1, none, 0, false, [], xlk xP93, xC93)
def xP94 : List (Nat × ab_N) := [(10, (0, 0, 0, .int 1)), (27, (0, 1, 3, .null)), (30, (9, 5, 0, .null)), (32, (7, 0, 0, .float 1)), (34, (10, 5, 0, .null)), (37, (1, 123, 2, .null))]
def xC94 : List (Nat × Instr × Nat × Nat) := [(0, .aload_n 0, 1, 0), (1, .getfield 10, 3, 0), (4, .getfield 27, 3, 0), (7, .sipush 4076, 3, 0), (10, .if_icmp .le 13, 3, 23), (13, .new 30, 3, 0), (16, .dup, 1, 0), (17, .ldc 32, 2, 0), (19, .invokespecial 34, 3, 0), (22, .athrow, 1, 0), (23, .aload_n 0, 1, 0), (24, .getfield 10, 3, 0), (27, .iload_n 1, 1, 0), (28, .invokevirtual 37, 3, 0), (31, .aload_n 0, 1, 0), (32, .getfield 10, 3, 0), (35, .iload_n 2, 1, 0), (36, .invokevirtual 37, 3, 0), (39, .aload_n 0, 1, 0), (40, .getfield 10, 3, 0), (43, .iload_n 3, 1, 0), (44, .invokevirtual 37, 3, 0), (47, .aload_n 0, 1, 0), (48, .getfield 10, 3, 0), (51, .iload 4, 2, 0), (53, .invokevirtual 37, 3, 0), (56, .aload_n 0, 1, 0), (57, .getfield 10, 3, 0), (60, .iload 5, 2, 0), (62, .invokevirtual 37, 3, 0), (65, .aload_n 0, 1, 0), (66, .getfield 10, 3, 0), (69, .getfield 27, 3, 0), (72, .ireturn, 1, 0)]
/-- NotationReader.feed(IIIII)I -/
def xM94 : ab_M := (⟨"NotationReader", "feed", "(IIIII)I"⟩, prog_1_method_2_code, 6, some .int, 5, false, [], xlk xP94, xC94)
def xP95 : List (Nat × ab_N) := [(10, (0, 0, 0, .int 1)), (27, (0, 1, 3, .null)), (41, (9, 6, 0, .null)), (43, (7, 0, 0, .float 2)), (45, (10, 6, 0, .null))]
def xC95 : List (Nat × Instr × Nat × Nat) := [(0, .iload_n 1, 1, 0), (1, .ifCond .lt 14, 3, 15), (4, .iload_n 1, 1, 0), (5, .aload_n 0, 1, 0), (6, .getfield 10, 3, 0), (9, .getfield 27, 3, 0), (12, .if_icmp .le 13, 3, 25), (15, .new 41, 3, 0), (18, .dup, 1, 0), (19, .ldc 43, 2, 0), (21, .invokespecial 45, 3, 0), (24, .athrow, 1, 0), (25, .aload_n 0, 1, 0), (26, .getfield 10, 3, 0), (29, .iload_n 1, 1, 0), (30, .putfield 27, 3, 0), (33, .iload_n 1, 1, 0), (34, .ireturn, 1, 0)]
/-- NotationReader.end(I)I -/
def xM95 : ab_M := (⟨"NotationReader", "end", "(I)I"⟩, prog_1_method_3_code, 2, some .int, 1, false, [], xlk xP95, xC95)
def xP96 : List (Nat × ab_N) := [(10, (0, 0, 0, .int 1)), (19, (0, 0, 1, .int 1)), (23, (0, 0, 2, .null)), (27, (0, 1, 3, .null)), (46, (1, 54, 2, .null)), (49, (1, 125, 2, .null)), (52, (1, 105, 2, .null)), (55, (1, 115, 2, .null)), (58, (1, 57, 2, .null))]
def xC96 : List (Nat × Instr × Nat × Nat) := [(0, .aload_n 0, 1, 0), (1, .getfield 19, 3, 0), (4, .invokevirtual 46, 3, 0), (7, .aload_n 0, 1, 0), (8, .getfield 10, 3, 0), (11, .invokevirtual 49, 3, 0), (14, .aload_n 0, 1, 0), (15, .iconst 0, 1, 0), (16, .invokevirtual 52, 3, 0), (19, .aload_n 0, 1, 0), (20, .bipush 26, 2, 0), (22, .invokevirtual 55, 3, 0), (25, .aload_n 0, 1, 0), (26, .getfield 10, 3, 0), (29, .iconst 0, 1, 0), (30, .putfield 27, 3, 0), (33, .aload_n 0, 1, 0), (34, .iconst (-1), 1, 0), (35, .putfield 23, 3, 0), (38, .aload_n 0, 1, 0), (39, .getfield 19, 3, 0), (42, .invokevirtual 58, 3, 0), (45, .ireturn, 1, 0)]
/-- NotationReader.read()I -/
def xM96 : ab_M := (⟨"NotationReader", "read", "()I"⟩, prog_1_method_4_code, 1, some .int, 0, false, [], xlk xP96, xC96)
def xP97 : List (Nat × ab_N) := [(23, (0, 0, 2, .null))]
def xC97 : List (Nat × Instr × Nat × Nat) := [(0, .aload_n 0, 1, 0), (1, .getfield 23, 3, 0), (4, .ireturn, 1, 0)]
/-- NotationReader.place()I -/
def xM97 : ab_M := (⟨"NotationReader", "place", "()I"⟩, prog_1_method_5_code, 1, some .int, 0, false, [], xlk xP97, xC97)
def xP98 : List (Nat × ab_N) := [(41, (9, 6, 0, .null)), (45, (10, 6, 0, .null)), (62, (1, 104, 2, .null)), (66, (0, 10, 0, .null)), (71, (0, 10, 1, .null)), (74, (0, 10, 5, .null)), (77, (1, 118, 2, .null)), (80, (7, 0, 0, .float 8))]
def xC98 : List (Nat × Instr × Nat × Nat) := [(0, .aload_n 0, 1, 0), (1, .iload_n 1, 1, 0), (2, .invokevirtual 62, 3, 0), (5, .astore_n 3, 1, 0), (6, .iload_n 2, 1, 0), (7, .tableswitch 49 0 3 #[29, 34, 39, 44], 29, 0), (36, .aload_n 3, 1, 0), (37, .getfield 66, 3, 0), (40, .ireturn, 1, 0), (41, .aload_n 3, 1, 0), (42, .getfield 71, 3, 0), (45, .ireturn, 1, 0), (46, .aload_n 3, 1, 0), (47, .getfield 74, 3, 0), (50, .ireturn, 1, 0), (51, .aload_n 3, 1, 0), (52, .invokevirtual 77, 3, 0), (55, .ireturn, 1, 0), (56, .new 41, 3, 0), (59, .dup, 1, 0), (60, .ldc 80, 2, 0), (62, .invokespecial 45, 3, 0), (65, .athrow, 1, 0)]
/-- NotationReader.node(II)I -/
def xM98 : ab_M := (⟨"NotationReader", "node", "(II)I"⟩, prog_1_method_6_code, 4, some .int, 2, false, [], xlk xP98, xC98)
def xP99 : List (Nat × ab_N) := [(19, (0, 0, 1, .int 1)), (58, (1, 57, 2, .null)), (62, (1, 104, 2, .null)), (67, (12, 10, 0, .null)), (74, (0, 10, 5, .null)), (82, (9, 8, 0, .null)), (84, (7, 0, 0, .float 9)), (86, (10, 8, 0, .null)), (87, (1, 55, 2, .null)), (91, (0, 10, 6, .null))]
def xC99 : List (Nat × Instr × Nat × Nat) := [(0, .aload_n 0, 1, 0), (1, .iload_n 1, 1, 0), (2, .invokevirtual 62, 3, 0), (5, .astore_n 3, 1, 0), (6, .iload_n 2, 1, 0), (7, .ifCond .lt 11, 3, 18), (10, .iload_n 2, 1, 0), (11, .aload_n 3, 1, 0), (12, .getfield 74, 3, 0), (15, .if_icmp .lt 13, 3, 28), (18, .new 82, 3, 0), (21, .dup, 1, 0), (22, .ldc 84, 2, 0), (24, .invokespecial 86, 3, 0), (27, .athrow, 1, 0), (28, .iload_n 1, 1, 0), (29, .iconst 1, 1, 0), (30, .iadd, 1, 0), (31, .istore 4, 2, 0), (33, .iconst 0, 1, 0), (34, .istore 5, 2, 0), (36, .iload 5, 2, 0), (38, .iload_n 2, 1, 0), (39, .if_icmp .ge 38, 3, 77), (42, .iload 4, 2, 0), (44, .aload_n 0, 1, 0), (45, .getfield 19, 3, 0), (48, .invokevirtual 58, 3, 0), (51, .if_icmp .ge 26, 3, 77), (54, .aload_n 0, 1, 0), (55, .getfield 19, 3, 0), (58, .iload 4, 2, 0), (60, .invokevirtual 87, 3, 0), (63, .checkcast 67, 3, 0), (66, .getfield 91, 3, 0), (69, .istore 4, 2, 0), (71, .iinc 5 1, 3, 0), (74, .goto (-38), 3, 36), (77, .iload 4, 2, 0), (79, .ireturn, 1, 0)]
/-- NotationReader.part(II)I -/
def xM99 : ab_M := (⟨"NotationReader", "part", "(II)I"⟩, prog_1_method_7_code, 6, some .int, 2, false, [], xlk xP99, xC99)
def xP100 : List (Nat × ab_N) := [(62, (1, 104, 2, .null)), (66, (0, 10, 0, .null)), (94, (9, 7, 0, .null)), (96, (7, 0, 0, .float 10)), (98, (10, 7, 0, .null)), (99, (0, 10, 4, .null))]
def xC100 : List (Nat × Instr × Nat × Nat) := [(0, .aload_n 0, 1, 0), (1, .iload_n 1, 1, 0), (2, .invokevirtual 62, 3, 0), (5, .astore_n 2, 1, 0), (6, .aload_n 2, 1, 0), (7, .getfield 66, 3, 0), (10, .iconst 4, 1, 0), (11, .if_icmp .eq 13, 3, 24), (14, .new 94, 3, 0), (17, .dup, 1, 0), (18, .ldc 96, 2, 0), (20, .invokespecial 98, 3, 0), (23, .athrow, 1, 0), (24, .aload_n 2, 1, 0), (25, .getfield 99, 3, 0), (28, .lreturn, 1, 0)]
/-- NotationReader.number(I)J -/
def xM100 : ab_M := (⟨"NotationReader", "number", "(I)J"⟩, prog_1_method_8_code, 3, some .long, 1, false, [], xlk xP100, xC100)
def xP101 : List (Nat × ab_N) := [(10, (0, 0, 0, .int 1)), (62, (1, 104, 2, .null)), (77, (1, 118, 2, .null)), (82, (9, 8, 0, .null)), (86, (10, 8, 0, .null)), (102, (7, 0, 0, .float 11)), (104, (0, 10, 2, .null)), (107, (1, 124, 2, .null))]
def xC101 : List (Nat × Instr × Nat × Nat) := [(0, .aload_n 0, 1, 0), (1, .iload_n 1, 1, 0), (2, .invokevirtual 62, 3, 0), (5, .astore_n 3, 1, 0), (6, .iload_n 2, 1, 0), (7, .ifCond .lt 11, 3, 18), (10, .iload_n 2, 1, 0), (11, .aload_n 3, 1, 0), (12, .invokevirtual 77, 3, 0), (15, .if_icmp .lt 13, 3, 28), (18, .new 82, 3, 0), (21, .dup, 1, 0), (22, .ldc 102, 2, 0), (24, .invokespecial 86, 3, 0), (27, .athrow, 1, 0), (28, .aload_n 0, 1, 0), (29, .getfield 10, 3, 0), (32, .aload_n 3, 1, 0), (33, .getfield 104, 3, 0), (36, .iload_n 2, 1, 0), (37, .iadd, 1, 0), (38, .invokevirtual 107, 3, 0), (41, .ireturn, 1, 0)]
/-- NotationReader.unit(II)I -/
def xM101 : ab_M := (⟨"NotationReader", "unit", "(II)I"⟩, prog_1_method_9_code, 4, some .int, 2, false, [], xlk xP101, xC101)
def xP102 : List (Nat × ab_N) := [(10, (0, 0, 0, .int 1)), (62, (1, 104, 2, .null)), (94, (9, 7, 0, .null)), (98, (10, 7, 0, .null)), (104, (0, 10, 2, .null)), (107, (1, 124, 2, .null)), (111, (1, 119, 2, .null)), (115, (7, 0, 0, .float 12)), (117, (0, 10, 3, .null))]
def xC102 : List (Nat × Instr × Nat × Nat) := [(0, .aload_n 0, 1, 0), (1, .iload_n 1, 1, 0), (2, .invokevirtual 62, 3, 0), (5, .astore_n 3, 1, 0), (6, .aload_n 0, 1, 0), (7, .iload_n 2, 1, 0), (8, .invokevirtual 62, 3, 0), (11, .astore 4, 2, 0), (13, .aload_n 3, 1, 0), (14, .invokevirtual 111, 3, 0), (17, .ifCond .eq 11, 3, 28), (20, .aload 4, 2, 0), (22, .invokevirtual 111, 3, 0), (25, .ifCond .ne 13, 3, 38), (28, .new 94, 3, 0), (31, .dup, 1, 0), (32, .ldc 115, 2, 0), (34, .invokespecial 98, 3, 0), (37, .athrow, 1, 0), (38, .aload_n 3, 1, 0), (39, .getfield 117, 3, 0), (42, .aload 4, 2, 0), (44, .getfield 117, 3, 0), (47, .if_icmp .ne 7, 3, 54), (50, .iconst 1, 1, 0), (51, .goto 4, 3, 55), (54, .iconst 0, 1, 0), (55, .istore 5, 2, 0), (57, .iconst 0, 1, 0), (58, .istore 6, 2, 0), (60, .iload 6, 2, 0), (62, .aload_n 3, 1, 0), (63, .getfield 117, 3, 0), (66, .if_icmp .ge 53, 3, 119), (69, .iload 5, 2, 0), (71, .ifCond .eq 48, 3, 119), (74, .aload_n 0, 1, 0), (75, .getfield 10, 3, 0), (78, .aload_n 3, 1, 0), (79, .getfield 104, 3, 0), (82, .iload 6, 2, 0), (84, .iadd, 1, 0), (85, .invokevirtual 107, 3, 0), (88, .aload_n 0, 1, 0), (89, .getfield 10, 3, 0), (92, .aload 4, 2, 0), (94, .getfield 104, 3, 0), (97, .iload 6, 2, 0), (99, .iadd, 1, 0), (100, .invokevirtual 107, 3, 0), (103, .if_icmp .ne 7, 3, 110), (106, .iconst 1, 1, 0), (107, .goto 4, 3, 111), (110, .iconst 0, 1, 0), (111, .istore 5, 2, 0), (113, .iinc 6 1, 3, 0), (116, .goto (-56), 3, 60), (119, .iload 5, 2, 0), (121, .ireturn, 1, 0)]
/-- NotationReader.same(II)Z -/
def xM102 : ab_M := (⟨"NotationReader", "same", "(II)Z"⟩, prog_1_method_10_code, 7, some .boolean, 2, false, [], xlk xP102, xC102)
def xP103 : List (Nat × ab_N) := [(10, (0, 0, 0, .int 1)), (19, (0, 0, 1, .int 1)), (27, (0, 1, 3, .null)), (41, (9, 6, 0, .null)), (45, (10, 6, 0, .null)), (58, (1, 57, 2, .null)), (120, (7, 0, 0, .float 13))]
def xC103 : List (Nat × Instr × Nat × Nat) := [(0, .iload_n 1, 1, 0), (1, .ifCond .eq 18, 3, 19), (4, .iload_n 1, 1, 0), (5, .iconst 1, 1, 0), (6, .if_icmp .eq 13, 3, 19), (9, .new 41, 3, 0), (12, .dup, 1, 0), (13, .ldc 120, 2, 0), (15, .invokespecial 45, 3, 0), (18, .athrow, 1, 0), (19, .iload_n 1, 1, 0), (20, .ifCond .ne 13, 3, 33), (23, .aload_n 0, 1, 0), (24, .getfield 10, 3, 0), (27, .getfield 27, 3, 0), (30, .goto 10, 3, 40), (33, .aload_n 0, 1, 0), (34, .getfield 19, 3, 0), (37, .invokevirtual 58, 3, 0), (40, .ireturn, 1, 0)]
/-- NotationReader.count(I)I -/
def xM103 : ab_M := (⟨"NotationReader", "count", "(I)I"⟩, prog_1_method_11_code, 2, some .int, 1, false, [], xlk xP103, xC103)
def xP104 : List (Nat × ab_N) := [(19, (0, 0, 1, .int 1)), (41, (9, 6, 0, .null)), (45, (10, 6, 0, .null)), (58, (1, 57, 2, .null)), (67, (12, 10, 0, .null)), (87, (1, 55, 2, .null)), (122, (7, 0, 0, .float 7))]
def xC104 : List (Nat × Instr × Nat × Nat) := [(0, .iload_n 1, 1, 0), (1, .ifCond .lt 14, 3, 15), (4, .iload_n 1, 1, 0), (5, .aload_n 0, 1, 0), (6, .getfield 19, 3, 0), (9, .invokevirtual 58, 3, 0), (12, .if_icmp .lt 13, 3, 25), (15, .new 41, 3, 0), (18, .dup, 1, 0), (19, .ldc 122, 2, 0), (21, .invokespecial 45, 3, 0), (24, .athrow, 1, 0), (25, .aload_n 0, 1, 0), (26, .getfield 19, 3, 0), (29, .iload_n 1, 1, 0), (30, .invokevirtual 87, 3, 0), (33, .checkcast 67, 3, 0), (36, .areturn, 1, 0)]
/-- NotationReader.nodeAt(I)LNotationReader$Node; -/
def xM104 : ab_M := (⟨"NotationReader", "nodeAt", "(I)LNotationReader$Node;"⟩, prog_1_method_12_code, 2, some (.object "NotationReader$Node"), 1, false, [], xlk xP104, xC104)
def xP105 : List (Nat × ab_N) := [(10, (0, 0, 0, .int 1)), (124, (0, 1, 4, .null)), (128, (0, 2, 0, .null)), (131, (1, 108, 2, .null)), (134, (0, 1, 5, .null)), (137, (1, 106, 2, .null)), (140, (1, 107, 2, .null)), (143, (1, 112, 0, .null)), (147, (1, 113, 2, .null)), (150, (1, 126, 2, .null)), (153, (1, 116, 2, .null))]
def xC105 : List (Nat × Instr × Nat × Nat) := [(0, .aload_n 0, 1, 0), (1, .getfield 10, 3, 0), (4, .getfield 124, 3, 0), (7, .getfield 128, 3, 0), (10, .istore_n 2, 1, 0), (11, .iload_n 2, 1, 0), (12, .bipush 21, 2, 0), (14, .if_icmp .ne 11, 3, 25), (17, .aload_n 0, 1, 0), (18, .iload_n 1, 1, 0), (19, .invokevirtual 131, 3, 0), (22, .goto 71, 3, 93), (25, .iload_n 2, 1, 0), (26, .iconst 5, 1, 0), (27, .if_icmp .ne 26, 3, 53), (30, .aload_n 0, 1, 0), (31, .getfield 10, 3, 0), (34, .getfield 134, 3, 0), (37, .getfield 128, 3, 0), (40, .bipush 24, 2, 0), (42, .if_icmp .ne 11, 3, 53), (45, .aload_n 0, 1, 0), (46, .iload_n 1, 1, 0), (47, .invokevirtual 137, 3, 0), (50, .goto 43, 3, 93), (53, .iload_n 2, 1, 0), (54, .bipush 25, 2, 0), (56, .if_icmp .ne 10, 3, 66), (59, .aload_n 0, 1, 0), (60, .invokevirtual 140, 3, 0), (63, .goto 30, 3, 93), (66, .iload_n 2, 1, 0), (67, .invokestatic 143, 3, 0), (70, .ifCond .eq 19, 3, 89), (73, .aload_n 0, 1, 0), (74, .iload_n 2, 1, 0), (75, .invokevirtual 147, 3, 0), (78, .pop, 1, 0), (79, .aload_n 0, 1, 0), (80, .getfield 10, 3, 0), (83, .invokevirtual 150, 3, 0), (86, .goto 7, 3, 93), (89, .aload_n 0, 1, 0), (90, .invokevirtual 153, 3, 0), (93, .return_, 1, 0)]
/-- NotationReader.value(I)V -/
def xM105 : ab_M := (⟨"NotationReader", "value", "(I)V"⟩, prog_1_method_13_code, 3, none, 1, false, [], xlk xP105, xC105)
def xP106 : List (Nat × ab_N) := [(10, (0, 0, 0, .int 1)), (52, (1, 105, 2, .null)), (74, (0, 10, 5, .null)), (147, (1, 113, 2, .null)), (150, (1, 126, 2, .null)), (153, (1, 116, 2, .null)), (156, (1, 114, 2, .null))]
def xC106 : List (Nat × Instr × Nat × Nat) := [(0, .aload_n 0, 1, 0), (1, .bipush 9, 2, 0), (3, .invokevirtual 147, 3, 0), (6, .astore_n 2, 1, 0), (7, .aload_n 0, 1, 0), (8, .getfield 10, 3, 0), (11, .invokevirtual 150, 3, 0), (14, .iload_n 1, 1, 0), (15, .bipush 60, 2, 0), (17, .if_icmp .lt 7, 3, 24), (20, .aload_n 0, 1, 0), (21, .invokevirtual 153, 3, 0), (24, .aload_n 0, 1, 0), (25, .getfield 10, 3, 0), (28, .invokevirtual 150, 3, 0), (31, .aload_n 0, 1, 0), (32, .iload_n 1, 1, 0), (33, .iconst 1, 1, 0), (34, .iadd, 1, 0), (35, .invokevirtual 52, 3, 0), (38, .aload_n 2, 1, 0), (39, .iconst 1, 1, 0), (40, .putfield 74, 3, 0), (43, .aload_n 0, 1, 0), (44, .aload_n 2, 1, 0), (45, .invokevirtual 156, 3, 0), (48, .return_, 1, 0)]
/-- NotationReader.choice(I)V -/
def xM106 : ab_M := (⟨"NotationReader", "choice", "(I)V"⟩, prog_1_method_14_code, 3, none, 1, false, [], xlk xP106, xC106)
def xP107 : List (Nat × ab_N) := [(10, (0, 0, 0, .int 1)), (55, (1, 115, 2, .null)), (99, (0, 10, 4, .null)), (124, (0, 1, 4, .null)), (147, (1, 113, 2, .null)), (150, (1, 126, 2, .null)), (160, (0, 2, 5, .null))]
def xC107 : List (Nat × Instr × Nat × Nat) := [(0, .aload_n 0, 1, 0), (1, .iconst 4, 1, 0), (2, .invokevirtual 147, 3, 0), (5, .astore_n 1, 1, 0), (6, .aload_n 0, 1, 0), (7, .getfield 10, 3, 0), (10, .invokevirtual 150, 3, 0), (13, .aload_n 0, 1, 0), (14, .iconst 4, 1, 0), (15, .invokevirtual 55, 3, 0), (18, .aload_n 1, 1, 0), (19, .aload_n 0, 1, 0), (20, .getfield 10, 3, 0), (23, .getfield 124, 3, 0), (26, .getfield 160, 3, 0), (29, .lneg, 1, 0), (30, .putfield 99, 3, 0), (33, .aload_n 0, 1, 0), (34, .getfield 10, 3, 0), (37, .invokevirtual 150, 3, 0), (40, .return_, 1, 0)]
/-- NotationReader.negative()V -/
def xM107 : ab_M := (⟨"NotationReader", "negative", "()V"⟩, prog_1_method_15_code, 2, none, 0, false, [], xlk xP107, xC107)
def xP108 : List (Nat × ab_N) := [(10, (0, 0, 0, .int 1)), (52, (1, 105, 2, .null)), (55, (1, 115, 2, .null)), (66, (0, 10, 0, .null)), (74, (0, 10, 5, .null)), (124, (0, 1, 4, .null)), (128, (0, 2, 0, .null)), (147, (1, 113, 2, .null)), (150, (1, 126, 2, .null)), (153, (1, 116, 2, .null)), (156, (1, 114, 2, .null)), (161, (1, 109, 2, .null)), (164, (1, 110, 2, .null)), (167, (1, 111, 2, .null))]
def xC108 : List (Nat × Instr × Nat × Nat) := [(0, .iload_n 1, 1, 0), (1, .bipush 60, 2, 0), (3, .if_icmp .lt 7, 3, 10), (6, .aload_n 0, 1, 0), (7, .invokevirtual 153, 3, 0), (10, .aload_n 0, 1, 0), (11, .bipush 10, 2, 0), (13, .invokevirtual 147, 3, 0), (16, .astore_n 2, 1, 0), (17, .aload_n 0, 1, 0), (18, .getfield 10, 3, 0), (21, .invokevirtual 150, 3, 0), (24, .aload_n 2, 1, 0), (25, .aload_n 0, 1, 0), (26, .invokevirtual 161, 3, 0), (29, .putfield 66, 3, 0), (32, .aload_n 2, 1, 0), (33, .getfield 66, 3, 0), (36, .bipush 13, 2, 0), (38, .if_icmp .ne 8, 3, 46), (41, .aload_n 0, 1, 0), (42, .aload_n 2, 1, 0), (43, .invokevirtual 164, 3, 0), (46, .aload_n 2, 1, 0), (47, .getfield 66, 3, 0), (50, .bipush 11, 2, 0), (52, .if_icmp .eq 12, 3, 64), (55, .aload_n 2, 1, 0), (56, .getfield 66, 3, 0), (59, .bipush 12, 2, 0), (61, .if_icmp .ne 7, 3, 68), (64, .iconst 1, 1, 0), (65, .goto 4, 3, 69), (68, .iconst 0, 1, 0), (69, .istore_n 3, 1, 0), (70, .iconst 0, 1, 0), (71, .istore 4, 2, 0), (73, .iload 4, 2, 0), (75, .sipush 4096, 3, 0), (78, .if_icmp .ge 92, 3, 170), (81, .iload_n 3, 1, 0), (82, .ifCond .eq 88, 3, 170), (85, .aload_n 2, 1, 0), (86, .getfield 66, 3, 0), (89, .bipush 12, 2, 0), (91, .if_icmp .ne 10, 3, 101), (94, .aload_n 0, 1, 0), (95, .invokevirtual 167, 3, 0), (98, .goto 4, 3, 102), (101, .aconst_null, 1, 0), (102, .astore 5, 2, 0), (104, .aload_n 0, 1, 0), (105, .iload_n 1, 1, 0), (106, .iconst 1, 1, 0), (107, .iadd, 1, 0), (108, .invokevirtual 52, 3, 0), (111, .aload 5, 2, 0), (113, .ifnull 9, 3, 122), (116, .aload_n 0, 1, 0), (117, .aload 5, 2, 0), (119, .invokevirtual 156, 3, 0), (122, .aload_n 2, 1, 0), (123, .dup, 1, 0), (124, .getfield 74, 3, 0), (127, .iconst 1, 1, 0), (128, .iadd, 1, 0), (129, .putfield 74, 3, 0), (132, .aload_n 0, 1, 0), (133, .getfield 10, 3, 0), (136, .getfield 124, 3, 0), (139, .getfield 128, 3, 0), (142, .bipush 23, 2, 0), (144, .if_icmp .ne 7, 3, 151), (147, .iconst 1, 1, 0), (148, .goto 4, 3, 152), (151, .iconst 0, 1, 0), (152, .istore_n 3, 1, 0), (153, .iload_n 3, 1, 0), (154, .ifCond .eq 10, 3, 164), (157, .aload_n 0, 1, 0), (158, .getfield 10, 3, 0), (161, .invokevirtual 150, 3, 0), (164, .iinc 4 1, 3, 0), (167, .goto (-94), 3, 73), (170, .aload_n 0, 1, 0), (171, .bipush 22, 2, 0), (173, .invokevirtual 55, 3, 0), (176, .aload_n 0, 1, 0), (177, .getfield 10, 3, 0), (180, .invokevirtual 150, 3, 0), (183, .aload_n 0, 1, 0), (184, .aload_n 2, 1, 0), (185, .invokevirtual 156, 3, 0), (188, .return_, 1, 0)]
/-- NotationReader.braces(I)V -/
def xM108 : ab_M := (⟨"NotationReader", "braces", "(I)V"⟩, prog_1_method_16_code, 6, none, 1, false, [], xlk xP108, xC108)
def xP109 : List (Nat × ab_N) := [(10, (0, 0, 0, .int 1)), (124, (0, 1, 4, .null)), (128, (0, 2, 0, .null)), (134, (0, 1, 5, .null)), (143, (1, 112, 0, .null))]
def xC109 : List (Nat × Instr × Nat × Nat) := [(0, .aload_n 0, 1, 0), (1, .getfield 10, 3, 0), (4, .getfield 124, 3, 0), (7, .getfield 128, 3, 0), (10, .istore_n 1, 1, 0), (11, .aload_n 0, 1, 0), (12, .getfield 10, 3, 0), (15, .getfield 134, 3, 0), (18, .getfield 128, 3, 0), (21, .istore_n 2, 1, 0), (22, .iload_n 1, 1, 0), (23, .bipush 22, 2, 0), (25, .if_icmp .ne 6, 3, 31), (28, .bipush 10, 2, 0), (30, .ireturn, 1, 0), (31, .iload_n 1, 1, 0), (32, .iconst 4, 1, 0), (33, .if_icmp .ne 11, 3, 44), (36, .iload_n 2, 1, 0), (37, .iconst 4, 1, 0), (38, .if_icmp .ne 6, 3, 44), (41, .bipush 13, 2, 0), (43, .ireturn, 1, 0), (44, .iload_n 1, 1, 0), (45, .iconst 5, 1, 0), (46, .if_icmp .ne 15, 3, 61), (49, .iload_n 2, 1, 0), (50, .invokestatic 143, 3, 0), (53, .ifCond .eq 8, 3, 61), (56, .bipush 12, 2, 0), (58, .goto 5, 3, 63), (61, .bipush 11, 2, 0), (63, .ireturn, 1, 0)]
/-- NotationReader.formOfBraces()I -/
def xM109 : ab_M := (⟨"NotationReader", "formOfBraces", "()I"⟩, prog_1_method_17_code, 3, some .int, 0, false, [], xlk xP109, xC109)
def xP110 : List (Nat × ab_N) := [(10, (0, 0, 0, .int 1)), (74, (0, 10, 5, .null)), (124, (0, 1, 4, .null)), (128, (0, 2, 0, .null)), (147, (1, 113, 2, .null)), (150, (1, 126, 2, .null))]
def xC110 : List (Nat × Instr × Nat × Nat) := [(0, .iconst 0, 1, 0), (1, .istore_n 2, 1, 0), (2, .iload_n 2, 1, 0), (3, .sipush 4096, 3, 0), (6, .if_icmp .ge 46, 3, 52), (9, .aload_n 0, 1, 0), (10, .getfield 10, 3, 0), (13, .getfield 124, 3, 0), (16, .getfield 128, 3, 0), (19, .iconst 4, 1, 0), (20, .if_icmp .ne 32, 3, 52), (23, .aload_n 0, 1, 0), (24, .iconst 4, 1, 0), (25, .invokevirtual 147, 3, 0), (28, .pop, 1, 0), (29, .aload_n 0, 1, 0), (30, .getfield 10, 3, 0), (33, .invokevirtual 150, 3, 0), (36, .aload_n 1, 1, 0), (37, .dup, 1, 0), (38, .getfield 74, 3, 0), (41, .iconst 1, 1, 0), (42, .iadd, 1, 0), (43, .putfield 74, 3, 0), (46, .iinc 2 1, 3, 0), (49, .goto (-47), 3, 2), (52, .return_, 1, 0)]
/-- NotationReader.numbers(LNotationReader$Node;)V -/
def xM110 : ab_M := (⟨"NotationReader", "numbers", "(LNotationReader$Node;)V"⟩, prog_1_method_18_code, 3, none, 1, false, [], xlk xP110, xC110)
def xP111 : List (Nat × ab_N) := [(10, (0, 0, 0, .int 1)), (55, (1, 115, 2, .null)), (74, (0, 10, 5, .null)), (147, (1, 113, 2, .null)), (150, (1, 126, 2, .null))]
def xC111 : List (Nat × Instr × Nat × Nat) := [(0, .aload_n 0, 1, 0), (1, .iconst 5, 1, 0), (2, .invokevirtual 55, 3, 0), (5, .aload_n 0, 1, 0), (6, .iconst 5, 1, 0), (7, .invokevirtual 147, 3, 0), (10, .astore_n 1, 1, 0), (11, .aload_n 1, 1, 0), (12, .iconst 1, 1, 0), (13, .putfield 74, 3, 0), (16, .aload_n 0, 1, 0), (17, .getfield 10, 3, 0), (20, .invokevirtual 150, 3, 0), (23, .aload_n 1, 1, 0), (24, .areturn, 1, 0)]
/-- NotationReader.idWithValue()LNotationReader$Node; -/
def xM111 : ab_M := (⟨"NotationReader", "idWithValue", "()LNotationReader$Node;"⟩, prog_1_method_19_code, 2, some (.object "NotationReader$Node"), 0, false, [], xlk xP111, xC111)
def xP112 : List (Nat × ab_N) := []
def xC112 : List (Nat × Instr × Nat × Nat) := [(0, .iload_n 0, 1, 0), (1, .iconst 1, 1, 0), (2, .if_icmp .lt 9, 3, 11), (5, .iload_n 0, 1, 0), (6, .bipush 8, 2, 0), (8, .if_icmp .le 15, 3, 23), (11, .iload_n 0, 1, 0), (12, .bipush 21, 2, 0), (14, .if_icmp .eq 9, 3, 23), (17, .iload_n 0, 1, 0), (18, .bipush 25, 2, 0), (20, .if_icmp .ne 7, 3, 27), (23, .iconst 1, 1, 0), (24, .goto 4, 3, 28), (27, .iconst 0, 1, 0), (28, .ireturn, 1, 0)]
/-- NotationReader.beginsValue(I)Z -/
def xM112 : ab_M := (⟨"NotationReader", "beginsValue", "(I)Z"⟩, prog_1_method_20_code, 1, some .boolean, 1, true, [], xlk xP112, xC112)
def xP113 : List (Nat × ab_N) := [(10, (0, 0, 0, .int 1)), (19, (0, 0, 1, .int 1)), (67, (2, 10, 0, .null)), (124, (0, 1, 4, .null)), (156, (1, 114, 2, .null)), (171, (1, 117, 0, .null)), (174, (1, 50, 2, .null))]
def xC113 : List (Nat × Instr × Nat × Nat) := [(0, .new 67, 3, 0), (3, .dup, 1, 0), (4, .iload_n 1, 1, 0), (5, .aload_n 0, 1, 0), (6, .getfield 10, 3, 0), (9, .getfield 124, 3, 0), (12, .invokespecial 171, 3, 0), (15, .astore_n 2, 1, 0), (16, .aload_n 0, 1, 0), (17, .getfield 19, 3, 0), (20, .aload_n 2, 1, 0), (21, .invokevirtual 174, 3, 0), (24, .pop, 1, 0), (25, .aload_n 0, 1, 0), (26, .aload_n 2, 1, 0), (27, .invokevirtual 156, 3, 0), (30, .aload_n 2, 1, 0), (31, .areturn, 1, 0)]
/-- NotationReader.add(I)LNotationReader$Node; -/
def xM113 : ab_M := (⟨"NotationReader", "add", "(I)LNotationReader$Node;"⟩, prog_1_method_21_code, 3, some (.object "NotationReader$Node"), 1, false, [], xlk xP113, xC113)
def xP114 : List (Nat × ab_N) := [(19, (0, 0, 1, .int 1)), (58, (1, 57, 2, .null)), (91, (0, 10, 6, .null))]
def xC114 : List (Nat × Instr × Nat × Nat) := [(0, .aload_n 1, 1, 0), (1, .aload_n 0, 1, 0), (2, .getfield 19, 3, 0), (5, .invokevirtual 58, 3, 0), (8, .putfield 91, 3, 0), (11, .return_, 1, 0)]
/-- NotationReader.close(LNotationReader$Node;)V -/
def xM114 : ab_M := (⟨"NotationReader", "close", "(LNotationReader$Node;)V"⟩, prog_1_method_22_code, 2, none, 1, false, [], xlk xP114, xC114)
def xP115 : List (Nat × ab_N) := [(10, (0, 0, 0, .int 1)), (124, (0, 1, 4, .null)), (128, (0, 2, 0, .null)), (153, (1, 116, 2, .null))]
def xC115 : List (Nat × Instr × Nat × Nat) := [(0, .aload_n 0, 1, 0), (1, .getfield 10, 3, 0), (4, .getfield 124, 3, 0), (7, .getfield 128, 3, 0), (10, .iload_n 1, 1, 0), (11, .if_icmp .eq 7, 3, 18), (14, .aload_n 0, 1, 0), (15, .invokevirtual 153, 3, 0), (18, .return_, 1, 0)]
/-- NotationReader.demand(I)V -/
def xM115 : ab_M := (⟨"NotationReader", "demand", "(I)V"⟩, prog_1_method_23_code, 2, none, 1, false, [], xlk xP115, xC115)
def xP116 : List (Nat × ab_N) := [(10, (0, 0, 0, .int 1)), (19, (0, 0, 1, .int 1)), (23, (0, 0, 2, .null)), (27, (0, 1, 3, .null)), (46, (1, 54, 2, .null)), (94, (9, 7, 0, .null)), (98, (10, 7, 0, .null)), (124, (0, 1, 4, .null)), (177, (0, 2, 1, .null)), (178, (7, 0, 0, .float 6))]
def xC116 : List (Nat × Instr × Nat × Nat) := [(0, .aload_n 0, 1, 0), (1, .aload_n 0, 1, 0), (2, .getfield 10, 3, 0), (5, .getfield 124, 3, 0), (8, .getfield 177, 3, 0), (11, .putfield 23, 3, 0), (14, .aload_n 0, 1, 0), (15, .getfield 19, 3, 0), (18, .invokevirtual 46, 3, 0), (21, .aload_n 0, 1, 0), (22, .getfield 10, 3, 0), (25, .iconst 0, 1, 0), (26, .putfield 27, 3, 0), (29, .new 94, 3, 0), (32, .dup, 1, 0), (33, .ldc 178, 2, 0), (35, .invokespecial 98, 3, 0), (38, .athrow, 1, 0)]
/-- NotationReader.refuse()V -/
def xM116 : ab_M := (⟨"NotationReader", "refuse", "()V"⟩, prog_1_method_24_code, 1, none, 0, false, [], xlk xP116, xC116)
def xP117 : List (Nat × ab_N) := [(3, (5, 0, 0, .null)), (9, (0, 10, 0, .null)), (15, (0, 2, 1, .null)), (20, (0, 10, 1, .int 1)), (21, (0, 2, 3, .null)), (24, (0, 10, 2, .int 1)), (25, (0, 2, 4, .null)), (28, (0, 10, 3, .int 1)), (29, (0, 2, 5, .null)), (33, (0, 10, 4, .null))]
def xC117 : List (Nat × Instr × Nat × Nat) := [(0, .aload_n 0, 1, 0), (1, .invokespecial 3, 3, 0), (4, .aload_n 0, 1, 0), (5, .iload_n 1, 1, 0), (6, .putfield 9, 3, 0), (9, .aload_n 0, 1, 0), (10, .aload_n 2, 1, 0), (11, .getfield 15, 3, 0), (14, .putfield 20, 3, 0), (17, .aload_n 0, 1, 0), (18, .aload_n 2, 1, 0), (19, .getfield 21, 3, 0), (22, .putfield 24, 3, 0), (25, .aload_n 0, 1, 0), (26, .aload_n 2, 1, 0), (27, .getfield 25, 3, 0), (30, .putfield 28, 3, 0), (33, .aload_n 0, 1, 0), (34, .aload_n 2, 1, 0), (35, .getfield 29, 3, 0), (38, .putfield 33, 3, 0), (41, .return_, 1, 0)]
/-- NotationReader$Node.<init>(ILNotationReader$Token;)V -/
def xM117 : ab_M := (⟨"NotationReader$Node", "<init>", "(ILNotationReader$Token;)V"⟩, prog_2_method_1_code, 3, none, 2, false, [], xlk xP117, xC117)
def xP118 : List (Nat × ab_N) := [(9, (0, 10, 0, .null)), (28, (0, 10, 3, .int 1))]
def xC118 : List (Nat × Instr × Nat × Nat) := [(0, .aload_n 0, 1, 0), (1, .getfield 9, 3, 0), (4, .bipush 6, 2, 0), (6, .if_icmp .eq 21, 3, 27), (9, .aload_n 0, 1, 0), (10, .getfield 9, 3, 0), (13, .bipush 7, 2, 0), (15, .if_icmp .eq 12, 3, 27), (18, .aload_n 0, 1, 0), (19, .getfield 9, 3, 0), (22, .bipush 8, 2, 0), (24, .if_icmp .ne 10, 3, 34), (27, .aload_n 0, 1, 0), (28, .getfield 28, 3, 0), (31, .goto 4, 3, 35), (34, .iconst 0, 1, 0), (35, .ireturn, 1, 0)]
/-- NotationReader$Node.units()I -/
def xM118 : ab_M := (⟨"NotationReader$Node", "units", "()I"⟩, prog_2_method_2_code, 1, some .int, 0, false, [], xlk xP118, xC118)
def xP119 : List (Nat × ab_N) := [(9, (0, 10, 0, .null))]
def xC119 : List (Nat × Instr × Nat × Nat) := [(0, .aload_n 0, 1, 0), (1, .getfield 9, 3, 0), (4, .iconst 5, 1, 0), (5, .if_icmp .eq 12, 3, 17), (8, .aload_n 0, 1, 0), (9, .getfield 9, 3, 0), (12, .bipush 9, 2, 0), (14, .if_icmp .ne 7, 3, 21), (17, .iconst 1, 1, 0), (18, .goto 4, 3, 22), (21, .iconst 0, 1, 0), (22, .ireturn, 1, 0)]
/-- NotationReader$Node.hasId()Z -/
def xM119 : ab_M := (⟨"NotationReader$Node", "hasId", "()Z"⟩, prog_2_method_3_code, 1, some .boolean, 0, false, [], xlk xP119, xC119)
def xP120 : List (Nat × ab_N) := [(3, (5, 0, 0, .null)), (9, (0, 2, 0, .null))]
def xC120 : List (Nat × Instr × Nat × Nat) := [(0, .aload_n 0, 1, 0), (1, .invokespecial 3, 3, 0), (4, .aload_n 0, 1, 0), (5, .bipush 26, 2, 0), (7, .putfield 9, 3, 0), (10, .return_, 1, 0)]
/-- NotationReader$Token.<init>()V -/
def xM120 : ab_M := (⟨"NotationReader$Token", "<init>", "()V"⟩, prog_4_method_1_code, 1, none, 0, false, [], xlk xP120, xC120)
def xP121 : List (Nat × ab_N) := [(9, (0, 2, 0, .null)), (15, (0, 2, 2, .null))]
def xC121 : List (Nat × Instr × Nat × Nat) := [(0, .aload_n 0, 1, 0), (1, .iload_n 1, 1, 0), (2, .putfield 9, 3, 0), (5, .aload_n 0, 1, 0), (6, .iload_n 2, 1, 0), (7, .putfield 15, 3, 0), (10, .return_, 1, 0)]
/-- NotationReader$Token.accept(II)V -/
def xM121 : ab_M := (⟨"NotationReader$Token", "accept", "(II)V"⟩, prog_4_method_2_code, 3, none, 2, false, [], xlk xP121, xC121)
def xP122 : List (Nat × ab_N) := [(3, (5, 0, 0, .null)), (9, (0, 1, 0, .int 1)), (15, (0, 1, 1, .int 1)), (18, (2, 2, 0, .null)), (20, (1, 120, 0, .null)), (21, (0, 1, 4, .null)), (25, (0, 1, 5, .null))]
def xC122 : List (Nat × Instr × Nat × Nat) := [(0, .aload_n 0, 1, 0), (1, .invokespecial 3, 3, 0), (4, .aload_n 0, 1, 0), (5, .sipush 4096, 3, 0), (8, .newarray .byte, 2, 0), (10, .putfield 9, 3, 0), (13, .aload_n 0, 1, 0), (14, .sipush 4096, 3, 0), (17, .newarray .byte, 2, 0), (19, .putfield 15, 3, 0), (22, .aload_n 0, 1, 0), (23, .new 18, 3, 0), (26, .dup, 1, 0), (27, .invokespecial 20, 3, 0), (30, .putfield 21, 3, 0), (33, .aload_n 0, 1, 0), (34, .new 18, 3, 0), (37, .dup, 1, 0), (38, .invokespecial 20, 3, 0), (41, .putfield 25, 3, 0), (44, .return_, 1, 0)]
/-- NotationReader$Tape.<init>()V -/
def xM122 : ab_M := (⟨"NotationReader$Tape", "<init>", "()V"⟩, prog_3_method_1_code, 1, none, 0, false, [], xlk xP122, xC122)
def xP123 : List (Nat × ab_N) := [(9, (0, 1, 0, .int 1)), (28, (0, 1, 3, .null))]
def xC123 : List (Nat × Instr × Nat × Nat) := [(0, .bipush 24, 2, 0), (2, .istore_n 2, 1, 0), (3, .iload_n 2, 1, 0), (4, .ifCond .lt 44, 3, 48), (7, .aload_n 0, 1, 0), (8, .getfield 28, 3, 0), (11, .aload_n 0, 1, 0), (12, .getfield 9, 3, 0), (15, .arraylength, 1, 0), (16, .if_icmp .ge 26, 3, 42), (19, .aload_n 0, 1, 0), (20, .getfield 9, 3, 0), (23, .aload_n 0, 1, 0), (24, .getfield 28, 3, 0), (27, .iload_n 1, 1, 0), (28, .iload_n 2, 1, 0), (29, .iushr, 1, 0), (30, .i2b, 1, 0), (31, .bastore, 1, 0), (32, .aload_n 0, 1, 0), (33, .dup, 1, 0), (34, .getfield 28, 3, 0), (37, .iconst 1, 1, 0), (38, .iadd, 1, 0), (39, .putfield 28, 3, 0), (42, .iinc 2 (-8), 3, 0), (45, .goto (-42), 3, 3), (48, .return_, 1, 0)]
/-- NotationReader$Tape.put(I)V -/
def xM123 : ab_M := (⟨"NotationReader$Tape", "put", "(I)V"⟩, prog_3_method_2_code, 3, none, 1, false, [], xlk xP123, xC123)
def xP124 : List (Nat × ab_N) := [(15, (0, 1, 1, .int 1))]
def xC124 : List (Nat × Instr × Nat × Nat) := [(0, .iload_n 1, 1, 0), (1, .ifCond .lt 21, 3, 22), (4, .iload_n 1, 1, 0), (5, .aload_n 0, 1, 0), (6, .getfield 15, 3, 0), (9, .arraylength, 1, 0), (10, .if_icmp .ge 12, 3, 22), (13, .aload_n 0, 1, 0), (14, .getfield 15, 3, 0), (17, .iload_n 1, 1, 0), (18, .baload, 1, 0), (19, .goto 4, 3, 23), (22, .iconst 0, 1, 0), (23, .ireturn, 1, 0)]
/-- NotationReader$Tape.letter(I)I -/
def xM124 : ab_M := (⟨"NotationReader$Tape", "letter", "(I)I"⟩, prog_3_method_3_code, 2, some .int, 1, false, [], xlk xP124, xC124)
def xP125 : List (Nat × ab_N) := [(25, (0, 1, 5, .null)), (32, (0, 1, 2, .null)), (35, (0, 2, 2, .null)), (38, (1, 126, 2, .null))]
def xC125 : List (Nat × Instr × Nat × Nat) := [(0, .aload_n 0, 1, 0), (1, .iconst 0, 1, 0), (2, .putfield 32, 3, 0), (5, .aload_n 0, 1, 0), (6, .getfield 25, 3, 0), (9, .iconst 0, 1, 0), (10, .putfield 35, 3, 0), (13, .aload_n 0, 1, 0), (14, .invokevirtual 38, 3, 0), (17, .aload_n 0, 1, 0), (18, .invokevirtual 38, 3, 0), (21, .return_, 1, 0)]
/-- NotationReader$Tape.start()V -/
def xM125 : ab_M := (⟨"NotationReader$Tape", "start", "()V"⟩, prog_3_method_4_code, 1, none, 0, false, [], xlk xP125, xC125)
def xP126 : List (Nat × ab_N) := [(21, (0, 1, 4, .null)), (25, (0, 1, 5, .null)), (28, (0, 1, 3, .null)), (32, (0, 1, 2, .null)), (35, (0, 2, 2, .null)), (41, (1, 133, 2, .null)), (45, (0, 2, 1, .null)), (48, (0, 2, 3, .null)), (51, (0, 2, 5, .null)), (55, (1, 121, 2, .null)), (59, (1, 135, 2, .null)), (62, (1, 138, 0, .null)), (66, (1, 127, 2, .null)), (70, (1, 139, 0, .null)), (73, (1, 129, 2, .null)), (76, (1, 130, 2, .null)), (79, (1, 131, 2, .null)), (82, (1, 132, 2, .null)), (86, (0, 2, 4, .null))]
def xC126 : List (Nat × Instr × Nat × Nat) := [(0, .aload_n 0, 1, 0), (1, .getfield 21, 3, 0), (4, .astore_n 1, 1, 0), (5, .aload_n 0, 1, 0), (6, .aload_n 0, 1, 0), (7, .getfield 25, 3, 0), (10, .putfield 21, 3, 0), (13, .aload_n 0, 1, 0), (14, .aload_n 1, 1, 0), (15, .putfield 25, 3, 0), (18, .aload_n 0, 1, 0), (19, .getfield 25, 3, 0), (22, .aload_n 0, 1, 0), (23, .aload_n 0, 1, 0), (24, .getfield 21, 3, 0), (27, .getfield 35, 3, 0), (30, .invokevirtual 41, 3, 0), (33, .putfield 45, 3, 0), (36, .aload_n 0, 1, 0), (37, .getfield 25, 3, 0), (40, .aload_n 0, 1, 0), (41, .getfield 32, 3, 0), (44, .putfield 48, 3, 0), (47, .aload_n 0, 1, 0), (48, .getfield 25, 3, 0), (51, .lconst 0, 1, 0), (52, .putfield 51, 3, 0), (55, .aload_n 0, 1, 0), (56, .getfield 25, 3, 0), (59, .bipush 27, 2, 0), (61, .aload_n 0, 1, 0), (62, .getfield 28, 3, 0), (65, .invokevirtual 55, 3, 0), (68, .aload_n 0, 1, 0), (69, .aload_n 0, 1, 0), (70, .getfield 25, 3, 0), (73, .getfield 45, 3, 0), (76, .invokevirtual 59, 3, 0), (79, .istore_n 2, 1, 0), (80, .iload_n 2, 1, 0), (81, .ifCond .ge 19, 3, 100), (84, .aload_n 0, 1, 0), (85, .getfield 25, 3, 0), (88, .bipush 26, 2, 0), (90, .aload_n 0, 1, 0), (91, .getfield 28, 3, 0), (94, .invokevirtual 55, 3, 0), (97, .goto 82, 3, 179), (100, .iload_n 2, 1, 0), (101, .invokestatic 62, 3, 0), (104, .ifCond .eq 14, 3, 118), (107, .aload_n 0, 1, 0), (108, .aload_n 0, 1, 0), (109, .getfield 25, 3, 0), (112, .invokevirtual 66, 3, 0), (115, .goto 64, 3, 179), (118, .iload_n 2, 1, 0), (119, .invokestatic 70, 3, 0), (122, .ifCond .eq 14, 3, 136), (125, .aload_n 0, 1, 0), (126, .aload_n 0, 1, 0), (127, .getfield 25, 3, 0), (130, .invokevirtual 73, 3, 0), (133, .goto 46, 3, 179), (136, .iload_n 2, 1, 0), (137, .bipush 34, 2, 0), (139, .if_icmp .ne 14, 3, 153), (142, .aload_n 0, 1, 0), (143, .aload_n 0, 1, 0), (144, .getfield 25, 3, 0), (147, .invokevirtual 76, 3, 0), (150, .goto 29, 3, 179), (153, .iload_n 2, 1, 0), (154, .bipush 39, 2, 0), (156, .if_icmp .ne 14, 3, 170), (159, .aload_n 0, 1, 0), (160, .aload_n 0, 1, 0), (161, .getfield 25, 3, 0), (164, .invokevirtual 79, 3, 0), (167, .goto 12, 3, 179), (170, .aload_n 0, 1, 0), (171, .aload_n 0, 1, 0), (172, .getfield 25, 3, 0), (175, .iload_n 2, 1, 0), (176, .invokevirtual 82, 3, 0), (179, .aload_n 0, 1, 0), (180, .getfield 25, 3, 0), (183, .aload_n 0, 1, 0), (184, .getfield 32, 3, 0), (187, .aload_n 0, 1, 0), (188, .getfield 25, 3, 0), (191, .getfield 48, 3, 0), (194, .isub, 1, 0), (195, .putfield 86, 3, 0), (198, .return_, 1, 0)]
/-- NotationReader$Tape.advance()V -/
def xM126 : ab_M := (⟨"NotationReader$Tape", "advance", "()V"⟩, prog_3_method_5_code, 3, none, 0, false, [], xlk xP126, xC126)
def xP127 : List (Nat × ab_N) := [(28, (0, 1, 3, .null)), (45, (0, 2, 1, .null)), (55, (1, 121, 2, .null)), (59, (1, 135, 2, .null)), (88, (1, 140, 0, .null)), (91, (1, 134, 2, .null)), (95, (1, 137, 0, .null)), (98, (7, 0, 0, .float 3)), (100, (1, 128, 2, .null)), (104, (7, 0, 0, .float 4)), (106, (7, 0, 0, .float 5))]
def xC127 : List (Nat × Instr × Nat × Nat) := [(0, .aload_n 1, 1, 0), (1, .getfield 45, 3, 0), (4, .istore_n 2, 1, 0), (5, .iload_n 2, 1, 0), (6, .aload_n 0, 1, 0), (7, .getfield 28, 3, 0), (10, .if_icmp .ge 61, 3, 71), (13, .aload_n 0, 1, 0), (14, .iload_n 2, 1, 0), (15, .invokevirtual 59, 3, 0), (18, .istore_n 3, 1, 0), (19, .iload_n 3, 1, 0), (20, .bipush 45, 2, 0), (22, .if_icmp .ne 20, 3, 42), (25, .aload_n 0, 1, 0), (26, .iload_n 2, 1, 0), (27, .iconst 1, 1, 0), (28, .iadd, 1, 0), (29, .invokevirtual 59, 3, 0), (32, .invokestatic 88, 3, 0), (35, .ifCond .eq 7, 3, 42), (38, .iconst 1, 1, 0), (39, .goto 4, 3, 43), (42, .iconst 0, 1, 0), (43, .istore 4, 2, 0), (45, .iload 4, 2, 0), (47, .ifCond .ne 13, 3, 60), (50, .iload_n 3, 1, 0), (51, .invokestatic 88, 3, 0), (54, .ifCond .ne 6, 3, 60), (57, .goto 14, 3, 71), (60, .aload_n 0, 1, 0), (61, .iload_n 3, 1, 0), (62, .invokevirtual 91, 3, 0), (65, .iinc 2 1, 3, 0), (68, .goto (-63), 3, 5), (71, .aload_n 0, 1, 0), (72, .aload_n 1, 1, 0), (73, .getfield 45, 3, 0), (76, .invokevirtual 59, 3, 0), (79, .invokestatic 95, 3, 0), (82, .ifCond .eq 12, 3, 94), (85, .aload_n 1, 1, 0), (86, .iconst 5, 1, 0), (87, .iload_n 2, 1, 0), (88, .invokevirtual 55, 3, 0), (91, .goto 57, 3, 148), (94, .aload_n 0, 1, 0), (95, .aload_n 1, 1, 0), (96, .ldc 98, 2, 0), (98, .invokevirtual 100, 3, 0), (101, .ifCond .eq 12, 3, 113), (104, .aload_n 1, 1, 0), (105, .iconst 1, 1, 0), (106, .iload_n 2, 1, 0), (107, .invokevirtual 55, 3, 0), (110, .goto 38, 3, 148), (113, .aload_n 0, 1, 0), (114, .aload_n 1, 1, 0), (115, .ldc 104, 2, 0), (117, .invokevirtual 100, 3, 0), (120, .ifCond .eq 12, 3, 132), (123, .aload_n 1, 1, 0), (124, .iconst 2, 1, 0), (125, .iload_n 2, 1, 0), (126, .invokevirtual 55, 3, 0), (129, .goto 19, 3, 148), (132, .aload_n 0, 1, 0), (133, .aload_n 1, 1, 0), (134, .ldc 106, 2, 0), (136, .invokevirtual 100, 3, 0), (139, .ifCond .eq 9, 3, 148), (142, .aload_n 1, 1, 0), (143, .iconst 3, 1, 0), (144, .iload_n 2, 1, 0), (145, .invokevirtual 55, 3, 0), (148, .return_, 1, 0)]
/-- NotationReader$Tape.word(LNotationReader$Token;)V -/
def xM127 : ab_M := (⟨"NotationReader$Tape", "word", "(LNotationReader$Token;)V"⟩, prog_3_method_6_code, 5, none, 1, false, [], xlk xP127, xC127)
def xP128 : List (Nat × ab_N) := [(32, (0, 1, 2, .null)), (48, (0, 2, 3, .null)), (108, (1, 71, 2, .null)), (113, (1, 124, 2, .null)), (116, (1, 74, 2, .null))]
def xC128 : List (Nat × Instr × Nat × Nat) := [(0, .aload_n 0, 1, 0), (1, .getfield 32, 3, 0), (4, .aload_n 1, 1, 0), (5, .getfield 48, 3, 0), (8, .isub, 1, 0), (9, .aload_n 2, 1, 0), (10, .invokevirtual 108, 3, 0), (13, .if_icmp .ne 7, 3, 20), (16, .iconst 1, 1, 0), (17, .goto 4, 3, 21), (20, .iconst 0, 1, 0), (21, .istore_n 3, 1, 0), (22, .iconst 0, 1, 0), (23, .istore 4, 2, 0), (25, .iload 4, 2, 0), (27, .aload_n 2, 1, 0), (28, .invokevirtual 108, 3, 0), (31, .if_icmp .ge 39, 3, 70), (34, .iload_n 3, 1, 0), (35, .ifCond .eq 35, 3, 70), (38, .aload_n 0, 1, 0), (39, .aload_n 1, 1, 0), (40, .getfield 48, 3, 0), (43, .iload 4, 2, 0), (45, .iadd, 1, 0), (46, .invokevirtual 113, 3, 0), (49, .aload_n 2, 1, 0), (50, .iload 4, 2, 0), (52, .invokevirtual 116, 3, 0), (55, .if_icmp .ne 7, 3, 62), (58, .iconst 1, 1, 0), (59, .goto 4, 3, 63), (62, .iconst 0, 1, 0), (63, .istore_n 3, 1, 0), (64, .iinc 4 1, 3, 0), (67, .goto (-42), 3, 25), (70, .iload_n 3, 1, 0), (71, .ireturn, 1, 0)]
/-- NotationReader$Tape.spells(LNotationReader$Token;Ljava/lang/String;)Z -/
def xM128 : ab_M := (⟨"NotationReader$Tape", "spells", "(LNotationReader$Token;Ljava/lang/String;)Z"⟩, prog_3_method_7_code, 5, some .boolean, 2, false, [], xlk xP128, xC128)
def xP129 : List (Nat × ab_N) := [(28, (0, 1, 3, .null)), (45, (0, 2, 1, .null)), (51, (0, 2, 5, .null)), (55, (1, 121, 2, .null)), (59, (1, 135, 2, .null)), (70, (1, 139, 0, .null)), (122, (3, 0, 0, .long 9223372036854775807)), (124, (3, 0, 0, .long 10))]
def xC129 : List (Nat × Instr × Nat × Nat) := [(0, .aload_n 1, 1, 0), (1, .getfield 45, 3, 0), (4, .istore_n 2, 1, 0), (5, .lconst 0, 1, 0), (6, .lstore_n 3, 1, 0), (7, .iconst 1, 1, 0), (8, .istore 5, 2, 0), (10, .iload_n 2, 1, 0), (11, .aload_n 0, 1, 0), (12, .getfield 28, 3, 0), (15, .if_icmp .ge 77, 3, 92), (18, .aload_n 0, 1, 0), (19, .iload_n 2, 1, 0), (20, .invokevirtual 59, 3, 0), (23, .invokestatic 70, 3, 0), (26, .ifCond .eq 66, 3, 92), (29, .aload_n 0, 1, 0), (30, .iload_n 2, 1, 0), (31, .invokevirtual 59, 3, 0), (34, .bipush 48, 2, 0), (36, .isub, 1, 0), (37, .istore 6, 2, 0), (39, .iload 5, 2, 0), (41, .ifCond .eq 23, 3, 64), (44, .lload_n 3, 1, 0), (45, .ldc2_w 122, 3, 0), (48, .iload 6, 2, 0), (50, .i2l, 1, 0), (51, .lsub, 1, 0), (52, .ldc2_w 124, 3, 0), (55, .ldiv, 1, 0), (56, .lcmp, 1, 0), (57, .ifCond .gt 7, 3, 64), (60, .iconst 1, 1, 0), (61, .goto 4, 3, 65), (64, .iconst 0, 1, 0), (65, .istore 5, 2, 0), (67, .iload 5, 2, 0), (69, .ifCond .eq 15, 3, 84), (72, .lload_n 3, 1, 0), (73, .ldc2_w 124, 3, 0), (76, .lmul, 1, 0), (77, .iload 6, 2, 0), (79, .i2l, 1, 0), (80, .ladd, 1, 0), (81, .goto 4, 3, 85), (84, .lload_n 3, 1, 0), (85, .lstore_n 3, 1, 0), (86, .iinc 2 1, 3, 0), (89, .goto (-79), 3, 10), (92, .aload_n 0, 1, 0), (93, .aload_n 1, 1, 0), (94, .getfield 45, 3, 0), (97, .invokevirtual 59, 3, 0), (100, .bipush 48, 2, 0), (102, .if_icmp .ne 17, 3, 119), (105, .iload_n 2, 1, 0), (106, .aload_n 1, 1, 0), (107, .getfield 45, 3, 0), (110, .iconst 1, 1, 0), (111, .iadd, 1, 0), (112, .if_icmp .le 7, 3, 119), (115, .iconst 1, 1, 0), (116, .goto 4, 3, 120), (119, .iconst 0, 1, 0), (120, .istore 6, 2, 0), (122, .iload 5, 2, 0), (124, .ifCond .eq 19, 3, 143), (127, .iload 6, 2, 0), (129, .ifCond .ne 14, 3, 143), (132, .aload_n 1, 1, 0), (133, .lload_n 3, 1, 0), (134, .putfield 51, 3, 0), (137, .aload_n 1, 1, 0), (138, .iconst 4, 1, 0), (139, .iload_n 2, 1, 0), (140, .invokevirtual 55, 3, 0), (143, .return_, 1, 0)]
/-- NotationReader$Tape.numeral(LNotationReader$Token;)V -/
def xM129 : ab_M := (⟨"NotationReader$Tape", "numeral", "(LNotationReader$Token;)V"⟩, prog_3_method_8_code, 7, none, 1, false, [], xlk xP129, xC129)
def xP130 : List (Nat × ab_N) := [(28, (0, 1, 3, .null)), (45, (0, 2, 1, .null)), (55, (1, 121, 2, .null)), (59, (1, 135, 2, .null)), (91, (1, 134, 2, .null))]
def xC130 : List (Nat × Instr × Nat × Nat) := [(0, .aload_n 1, 1, 0), (1, .getfield 45, 3, 0), (4, .iconst 1, 1, 0), (5, .iadd, 1, 0), (6, .istore_n 2, 1, 0), (7, .iload_n 2, 1, 0), (8, .aload_n 0, 1, 0), (9, .getfield 28, 3, 0), (12, .if_icmp .ge 59, 3, 71), (15, .aload_n 0, 1, 0), (16, .iload_n 2, 1, 0), (17, .invokevirtual 59, 3, 0), (20, .istore_n 3, 1, 0), (21, .iload_n 3, 1, 0), (22, .iconst 1, 1, 0), (23, .if_icmp .lt 9, 3, 32), (26, .iload_n 3, 1, 0), (27, .bipush 127, 2, 0), (29, .if_icmp .le 4, 3, 33), (32, .return_, 1, 0), (33, .iload_n 3, 1, 0), (34, .bipush 34, 2, 0), (36, .if_icmp .ne 24, 3, 60), (39, .iinc 2 1, 3, 0), (42, .aload_n 0, 1, 0), (43, .iload_n 2, 1, 0), (44, .invokevirtual 59, 3, 0), (47, .bipush 34, 2, 0), (49, .if_icmp .eq 11, 3, 60), (52, .aload_n 1, 1, 0), (53, .bipush 8, 2, 0), (55, .iload_n 2, 1, 0), (56, .invokevirtual 55, 3, 0), (59, .return_, 1, 0), (60, .aload_n 0, 1, 0), (61, .iload_n 3, 1, 0), (62, .invokevirtual 91, 3, 0), (65, .iinc 2 1, 3, 0), (68, .goto (-61), 3, 7), (71, .return_, 1, 0)]
/-- NotationReader$Tape.string(LNotationReader$Token;)V -/
def xM130 : ab_M := (⟨"NotationReader$Tape", "string", "(LNotationReader$Token;)V"⟩, prog_3_method_9_code, 4, none, 1, false, [], xlk xP130, xC130)
def xP131 : List (Nat × ab_N) := [(41, (1, 133, 2, .null)), (45, (0, 2, 1, .null)), (55, (1, 121, 2, .null)), (59, (1, 135, 2, .null)), (91, (1, 134, 2, .null)), (126, (1, 141, 0, .null))]
def xC131 : List (Nat × Instr × Nat × Nat) := [(0, .iconst 1, 1, 0), (1, .istore_n 2, 1, 0), (2, .aload_n 0, 1, 0), (3, .aload_n 1, 1, 0), (4, .getfield 45, 3, 0), (7, .iconst 1, 1, 0), (8, .iadd, 1, 0), (9, .invokevirtual 41, 3, 0), (12, .istore_n 3, 1, 0), (13, .iconst 0, 1, 0), (14, .istore 4, 2, 0), (16, .iload 4, 2, 0), (18, .sipush 4096, 3, 0), (21, .if_icmp .ge 57, 3, 78), (24, .aload_n 0, 1, 0), (25, .iload_n 3, 1, 0), (26, .invokevirtual 59, 3, 0), (29, .invokestatic 126, 3, 0), (32, .ifCond .eq 46, 3, 78), (35, .iload_n 2, 1, 0), (36, .ifCond .eq 17, 3, 53), (39, .aload_n 0, 1, 0), (40, .iload_n 3, 1, 0), (41, .invokevirtual 59, 3, 0), (44, .bipush 49, 2, 0), (46, .if_icmp .gt 7, 3, 53), (49, .iconst 1, 1, 0), (50, .goto 4, 3, 54), (53, .iconst 0, 1, 0), (54, .istore_n 2, 1, 0), (55, .aload_n 0, 1, 0), (56, .aload_n 0, 1, 0), (57, .iload_n 3, 1, 0), (58, .invokevirtual 59, 3, 0), (61, .invokevirtual 91, 3, 0), (64, .aload_n 0, 1, 0), (65, .iload_n 3, 1, 0), (66, .iconst 1, 1, 0), (67, .iadd, 1, 0), (68, .invokevirtual 41, 3, 0), (71, .istore_n 3, 1, 0), (72, .iinc 4 1, 3, 0), (75, .goto (-59), 3, 16), (78, .aload_n 0, 1, 0), (79, .iload_n 3, 1, 0), (80, .invokevirtual 59, 3, 0), (83, .bipush 39, 2, 0), (85, .if_icmp .eq 4, 3, 89), (88, .return_, 1, 0), (89, .aload_n 0, 1, 0), (90, .iload_n 3, 1, 0), (91, .iconst 1, 1, 0), (92, .iadd, 1, 0), (93, .invokevirtual 59, 3, 0), (96, .istore 4, 2, 0), (98, .iload 4, 2, 0), (100, .bipush 72, 2, 0), (102, .if_icmp .ne 15, 3, 117), (105, .aload_n 1, 1, 0), (106, .bipush 7, 2, 0), (108, .iload_n 3, 1, 0), (109, .iconst 2, 1, 0), (110, .iadd, 1, 0), (111, .invokevirtual 55, 3, 0), (114, .goto 23, 3, 137), (117, .iload 4, 2, 0), (119, .bipush 66, 2, 0), (121, .if_icmp .ne 16, 3, 137), (124, .iload_n 2, 1, 0), (125, .ifCond .eq 12, 3, 137), (128, .aload_n 1, 1, 0), (129, .bipush 6, 2, 0), (131, .iload_n 3, 1, 0), (132, .iconst 2, 1, 0), (133, .iadd, 1, 0), (134, .invokevirtual 55, 3, 0), (137, .return_, 1, 0)]
/-- NotationReader$Tape.digits(LNotationReader$Token;)V -/
def xM131 : ab_M := (⟨"NotationReader$Tape", "digits", "(LNotationReader$Token;)V"⟩, prog_3_method_10_code, 5, none, 1, false, [], xlk xP131, xC131)
def xP132 : List (Nat × ab_N) := [(45, (0, 2, 1, .null)), (55, (1, 121, 2, .null)), (59, (1, 135, 2, .null))]
def xC132 : List (Nat × Instr × Nat × Nat) := [(0, .aload_n 1, 1, 0), (1, .getfield 45, 3, 0), (4, .iconst 1, 1, 0), (5, .iadd, 1, 0), (6, .istore_n 3, 1, 0), (7, .iload_n 2, 1, 0), (8, .bipush 123, 2, 0), (10, .if_icmp .ne 13, 3, 23), (13, .aload_n 1, 1, 0), (14, .bipush 21, 2, 0), (16, .iload_n 3, 1, 0), (17, .invokevirtual 55, 3, 0), (20, .goto 86, 3, 106), (23, .iload_n 2, 1, 0), (24, .bipush 125, 2, 0), (26, .if_icmp .ne 13, 3, 39), (29, .aload_n 1, 1, 0), (30, .bipush 22, 2, 0), (32, .iload_n 3, 1, 0), (33, .invokevirtual 55, 3, 0), (36, .goto 70, 3, 106), (39, .iload_n 2, 1, 0), (40, .bipush 44, 2, 0), (42, .if_icmp .ne 13, 3, 55), (45, .aload_n 1, 1, 0), (46, .bipush 23, 2, 0), (48, .iload_n 3, 1, 0), (49, .invokevirtual 55, 3, 0), (52, .goto 54, 3, 106), (55, .iload_n 2, 1, 0), (56, .bipush 45, 2, 0), (58, .if_icmp .ne 13, 3, 71), (61, .aload_n 1, 1, 0), (62, .bipush 25, 2, 0), (64, .iload_n 3, 1, 0), (65, .invokevirtual 55, 3, 0), (68, .goto 38, 3, 106), (71, .iload_n 2, 1, 0), (72, .bipush 58, 2, 0), (74, .if_icmp .ne 32, 3, 106), (77, .aload_n 0, 1, 0), (78, .iload_n 3, 1, 0), (79, .invokevirtual 59, 3, 0), (82, .bipush 58, 2, 0), (84, .if_icmp .ne 15, 3, 99), (87, .aload_n 0, 1, 0), (88, .iload_n 3, 1, 0), (89, .iconst 1, 1, 0), (90, .iadd, 1, 0), (91, .invokevirtual 59, 3, 0), (94, .bipush 61, 2, 0), (96, .if_icmp .eq 10, 3, 106), (99, .aload_n 1, 1, 0), (100, .bipush 24, 2, 0), (102, .iload_n 3, 1, 0), (103, .invokevirtual 55, 3, 0), (106, .return_, 1, 0)]
/-- NotationReader$Tape.sign(LNotationReader$Token;I)V -/
def xM132 : ab_M := (⟨"NotationReader$Tape", "sign", "(LNotationReader$Token;I)V"⟩, prog_3_method_11_code, 4, none, 2, false, [], xlk xP132, xC132)
def xP133 : List (Nat × ab_N) := [(28, (0, 1, 3, .null)), (59, (1, 135, 2, .null)), (129, (1, 136, 0, .null))]
def xC133 : List (Nat × Instr × Nat × Nat) := [(0, .iconst 0, 1, 0), (1, .istore_n 2, 1, 0), (2, .iload_n 1, 1, 0), (3, .istore_n 3, 1, 0), (4, .iload_n 3, 1, 0), (5, .aload_n 0, 1, 0), (6, .getfield 28, 3, 0), (9, .if_icmp .ge 80, 3, 89), (12, .aload_n 0, 1, 0), (13, .iload_n 3, 1, 0), (14, .invokevirtual 59, 3, 0), (17, .istore 4, 2, 0), (19, .iload 4, 2, 0), (21, .bipush 45, 2, 0), (23, .if_icmp .ne 31, 3, 54), (26, .aload_n 0, 1, 0), (27, .iload_n 3, 1, 0), (28, .iconst 1, 1, 0), (29, .iadd, 1, 0), (30, .invokevirtual 59, 3, 0), (33, .bipush 45, 2, 0), (35, .if_icmp .ne 19, 3, 54), (38, .iload_n 2, 1, 0), (39, .ifCond .ne 7, 3, 46), (42, .iconst 1, 1, 0), (43, .goto 4, 3, 47), (46, .iconst 0, 1, 0), (47, .istore_n 2, 1, 0), (48, .iinc 3 2, 3, 0), (51, .goto 35, 3, 86), (54, .iload_n 2, 1, 0), (55, .ifCond .ne 11, 3, 66), (58, .iload 4, 2, 0), (60, .invokestatic 129, 3, 0), (63, .ifCond .eq 26, 3, 89), (66, .iload_n 2, 1, 0), (67, .ifCond .eq 14, 3, 81), (70, .iload 4, 2, 0), (72, .bipush 10, 2, 0), (74, .if_icmp .eq 7, 3, 81), (77, .iconst 1, 1, 0), (78, .goto 4, 3, 82), (81, .iconst 0, 1, 0), (82, .istore_n 2, 1, 0), (83, .iinc 3 1, 3, 0), (86, .goto (-82), 3, 4), (89, .iload_n 3, 1, 0), (90, .ireturn, 1, 0)]
/-- NotationReader$Tape.blanksEnd(I)I -/
def xM133 : ab_M := (⟨"NotationReader$Tape", "blanksEnd", "(I)I"⟩, prog_3_method_12_code, 5, some .int, 1, false, [], xlk xP133, xC133)
def xP134 : List (Nat × ab_N) := [(15, (0, 1, 1, .int 1)), (32, (0, 1, 2, .null))]
def xC134 : List (Nat × Instr × Nat × Nat) := [(0, .aload_n 0, 1, 0), (1, .getfield 32, 3, 0), (4, .aload_n 0, 1, 0), (5, .getfield 15, 3, 0), (8, .arraylength, 1, 0), (9, .if_icmp .ge 24, 3, 33), (12, .aload_n 0, 1, 0), (13, .getfield 15, 3, 0), (16, .aload_n 0, 1, 0), (17, .getfield 32, 3, 0), (20, .iload_n 1, 1, 0), (21, .i2b, 1, 0), (22, .bastore, 1, 0), (23, .aload_n 0, 1, 0), (24, .dup, 1, 0), (25, .getfield 32, 3, 0), (28, .iconst 1, 1, 0), (29, .iadd, 1, 0), (30, .putfield 32, 3, 0), (33, .return_, 1, 0)]
/-- NotationReader$Tape.keep(I)V -/
def xM134 : ab_M := (⟨"NotationReader$Tape", "keep", "(I)V"⟩, prog_3_method_13_code, 2, none, 1, false, [], xlk xP134, xC134)
def xP135 : List (Nat × ab_N) := [(9, (0, 1, 0, .int 1)), (28, (0, 1, 3, .null))]
def xC135 : List (Nat × Instr × Nat × Nat) := [(0, .iload_n 1, 1, 0), (1, .ifCond .lt 33, 3, 34), (4, .iload_n 1, 1, 0), (5, .aload_n 0, 1, 0), (6, .getfield 28, 3, 0), (9, .if_icmp .ge 25, 3, 34), (12, .iload_n 1, 1, 0), (13, .aload_n 0, 1, 0), (14, .getfield 9, 3, 0), (17, .arraylength, 1, 0), (18, .if_icmp .ge 16, 3, 34), (21, .aload_n 0, 1, 0), (22, .getfield 9, 3, 0), (25, .iload_n 1, 1, 0), (26, .baload, 1, 0), (27, .sipush 255, 3, 0), (30, .iand, 1, 0), (31, .goto 4, 3, 35), (34, .iconst (-1), 1, 0), (35, .ireturn, 1, 0)]
/-- NotationReader$Tape.at(I)I -/
def xM135 : ab_M := (⟨"NotationReader$Tape", "at", "(I)I"⟩, prog_3_method_14_code, 2, some .int, 1, false, [], xlk xP135, xC135)
def xP136 : List (Nat × ab_N) := []
def xC136 : List (Nat × Instr × Nat × Nat) := [(0, .iload_n 0, 1, 0), (1, .bipush 9, 2, 0), (3, .if_icmp .eq 21, 3, 24), (6, .iload_n 0, 1, 0), (7, .bipush 10, 2, 0), (9, .if_icmp .eq 15, 3, 24), (12, .iload_n 0, 1, 0), (13, .bipush 13, 2, 0), (15, .if_icmp .eq 9, 3, 24), (18, .iload_n 0, 1, 0), (19, .bipush 32, 2, 0), (21, .if_icmp .ne 7, 3, 28), (24, .iconst 1, 1, 0), (25, .goto 4, 3, 29), (28, .iconst 0, 1, 0), (29, .ireturn, 1, 0)]
/-- NotationReader$Tape.isBlank(I)Z -/
def xM136 : ab_M := (⟨"NotationReader$Tape", "isBlank", "(I)Z"⟩, prog_3_method_15_code, 1, some .boolean, 1, true, [], xlk xP136, xC136)
def xP137 : List (Nat × ab_N) := []
def xC137 : List (Nat × Instr × Nat × Nat) := [(0, .iload_n 0, 1, 0), (1, .bipush 97, 2, 0), (3, .if_icmp .lt 13, 3, 16), (6, .iload_n 0, 1, 0), (7, .bipush 122, 2, 0), (9, .if_icmp .gt 7, 3, 16), (12, .iconst 1, 1, 0), (13, .goto 4, 3, 17), (16, .iconst 0, 1, 0), (17, .ireturn, 1, 0)]
/-- NotationReader$Tape.isSmallLetter(I)Z -/
def xM137 : ab_M := (⟨"NotationReader$Tape", "isSmallLetter", "(I)Z"⟩, prog_3_method_16_code, 1, some .boolean, 1, true, [], xlk xP137, xC137)
def xP138 : List (Nat × ab_N) := []
def xC138 : List (Nat × Instr × Nat × Nat) := [(0, .iload_n 0, 1, 0), (1, .bipush 97, 2, 0), (3, .if_icmp .lt 9, 3, 12), (6, .iload_n 0, 1, 0), (7, .bipush 122, 2, 0), (9, .if_icmp .le 15, 3, 24), (12, .iload_n 0, 1, 0), (13, .bipush 65, 2, 0), (15, .if_icmp .lt 13, 3, 28), (18, .iload_n 0, 1, 0), (19, .bipush 90, 2, 0), (21, .if_icmp .gt 7, 3, 28), (24, .iconst 1, 1, 0), (25, .goto 4, 3, 29), (28, .iconst 0, 1, 0), (29, .ireturn, 1, 0)]
/-- NotationReader$Tape.isLetter(I)Z -/
def xM138 : ab_M := (⟨"NotationReader$Tape", "isLetter", "(I)Z"⟩, prog_3_method_17_code, 1, some .boolean, 1, true, [], xlk xP138, xC138)
def xP139 : List (Nat × ab_N) := []
def xC139 : List (Nat × Instr × Nat × Nat) := [(0, .iload_n 0, 1, 0), (1, .bipush 48, 2, 0), (3, .if_icmp .lt 13, 3, 16), (6, .iload_n 0, 1, 0), (7, .bipush 57, 2, 0), (9, .if_icmp .gt 7, 3, 16), (12, .iconst 1, 1, 0), (13, .goto 4, 3, 17), (16, .iconst 0, 1, 0), (17, .ireturn, 1, 0)]
/-- NotationReader$Tape.isDigit(I)Z -/
def xM139 : ab_M := (⟨"NotationReader$Tape", "isDigit", "(I)Z"⟩, prog_3_method_18_code, 1, some .boolean, 1, true, [], xlk xP139, xC139)
def xP140 : List (Nat × ab_N) := [(62, (1, 138, 0, .null)), (70, (1, 139, 0, .null))]
def xC140 : List (Nat × Instr × Nat × Nat) := [(0, .iload_n 0, 1, 0), (1, .invokestatic 62, 3, 0), (4, .ifCond .ne 10, 3, 14), (7, .iload_n 0, 1, 0), (8, .invokestatic 70, 3, 0), (11, .ifCond .eq 7, 3, 18), (14, .iconst 1, 1, 0), (15, .goto 4, 3, 19), (18, .iconst 0, 1, 0), (19, .ireturn, 1, 0)]
/-- NotationReader$Tape.isLetterOrDigit(I)Z -/
def xM140 : ab_M := (⟨"NotationReader$Tape", "isLetterOrDigit", "(I)Z"⟩, prog_3_method_19_code, 1, some .boolean, 1, true, [], xlk xP140, xC140)
def xP141 : List (Nat × ab_N) := [(70, (1, 139, 0, .null))]
def xC141 : List (Nat × Instr × Nat × Nat) := [(0, .iload_n 0, 1, 0), (1, .invokestatic 70, 3, 0), (4, .ifCond .ne 15, 3, 19), (7, .iload_n 0, 1, 0), (8, .bipush 65, 2, 0), (10, .if_icmp .lt 13, 3, 23), (13, .iload_n 0, 1, 0), (14, .bipush 70, 2, 0), (16, .if_icmp .gt 7, 3, 23), (19, .iconst 1, 1, 0), (20, .goto 4, 3, 24), (23, .iconst 0, 1, 0), (24, .ireturn, 1, 0)]
/-- NotationReader$Tape.isHexDigit(I)Z -/
def xM141 : ab_M := (⟨"NotationReader$Tape", "isHexDigit", "(I)Z"⟩, prog_3_method_20_code, 1, some .boolean, 1, true, [], xlk xP141, xC141)
def x_mt (vS : Value) : List ab_M := [xM0, xM1, xM2, xM3, xM4, xM5, xM6, xM7, xM8, xM9, xM10, xM11, xM12, xM13, xM14, xM15, xM16, xM17, xM18, xM19, xM20, xM21, xM22, xM23, xM24, xM25, xM26, xM27, xM28, xM29, xM30, xM31, xM32, xM33, xM34, xM35, xM36, xM37, xM38, xM39, xM40, xM41, xM42, xM43, xM44, xM45, xM46, xM47, xM48, xM49, xM50, xM51, xM52, xM53, xM54, xM55, xM56, xM57, xM58, xM59, xM60, xM61, xM62, xM63, xM64, xM65, xM66, xM67, xM68, xM69, xM70, xM71, xM72, xM73, xM74, (xM75 vS), xM76, xM77, xM78, xM79, xM80, xM81, xM82, xM83, xM84, xM85, xM86, xM87, xM88, xM89, xM90, xM91, xM92, xM93, xM94, xM95, xM96, xM97, xM98, xM99, xM100, xM101, xM102, xM103, xM104, xM105, xM106, xM107, xM108, xM109, xM110, xM111, xM112, xM113, xM114, xM115, xM116, xM117, xM118, xM119, xM120, xM121, xM122, xM123, xM124, xM125, xM126, xM127, xM128, xM129, xM130, xM131, xM132, xM133, xM134, xM135, xM136, xM137, xM138, xM139, xM140, xM141]
/- floats: 0 script; 1 string NotationReader 32 the tape would have more than 4096 bytes; 2 string NotationReader 43 the tape has no such length to keep; 3 string NotationReader$Tape 98 TRUE; 4 string NotationReader$Tape 104 FALSE; 5 string NotationReader$Tape 106 NULL; 6 string NotationReader 178 the tape is no value; 7 string NotationReader 122 there is no such node; 8 string NotationReader 80 what is 0 .. 3; 9 string NotationReader 84 the node has no such part; 10 string NotationReader 96 the node is no number; 11 string NotationReader 102 the node has no such digit or byte; 12 string NotationReader 115 a node is no identifier; 13 string NotationReader 120 what is 0 or 1; 14 string NotationReaderModel 19 ::=; 15 string NotationReaderModel 21 ...; 16 string NotationReaderModel 23 ..; 17 string NotationReaderModel 25 {; 18 string NotationReaderModel 27 }; 19 string NotationReaderModel 29 (; 20 string NotationReaderModel 31 ); 21 string NotationReaderModel 33 [; 22 string NotationReaderModel 35 ]; 23 string NotationReaderModel 37 ,; 24 string NotationReaderModel 39 :; 25 string NotationReaderModel 41 -; 26 string NotationReaderModel 47 DEFINITIONS; 27 string NotationReaderModel 49 EXPLICIT; 28 string NotationReaderModel 51 IMPLICIT; 29 string NotationReaderModel 53 AUTOMATIC; 30 string NotationReaderModel 55 TAGS; 31 string NotationReaderModel 57 BEGIN; 32 string NotationReaderModel 59 END; 33 string NotationReaderModel 61 UNIVERSAL; 34 string NotationReaderModel 63 APPLICATION; 35 string NotationReaderModel 65 PRIVATE; 36 string NotationReaderModel 67 INTEGER; 37 string NotationReaderModel 69 ENUMERATED; 38 string NotationReaderModel 71 BIT; 39 string NotationReaderModel 73 STRING; 40 string NotationReaderModel 75 OCTET; 41 string NotationReaderModel 77 OBJECT; 42 string NotationReaderModel 79 IDENTIFIER; 43 string NotationReaderModel 81 SEQUENCE; 44 string NotationReaderModel 83 SET; 45 string NotationReaderModel 85 OF; 46 string NotationReaderModel 87 CHOICE; 47 string NotationReaderModel 89 SIZE; 48 string NotationReaderModel 91 OPTIONAL; 49 string NotationReaderModel 93 DEFAULT; 50 string NotationReaderModel 95 BOOLEAN; 51 string NotationReaderModel 103 MIN; 52 string NotationReaderModel 105 MAX; 53 string NotationReaderModel 107 UTF8String; 54 string NotationReaderModel 109 PrintableString; 55 string NotationReaderModel 111 IA5String; 56 string NotationReaderModel 113 NumericString; 57 string NotationReaderModel 115 VisibleString; 58 string java/util/Arrays 337  > ; 59 static java/util/ArrayList DEFAULTCAPACITY_EMPTY_ELEMENTDATA [Ljava/lang/Object;; 60 mirror [Ljava/lang/Object; -/
def x_trms : List Term := [.arg 0, .string "NotationReader" 32, .string "NotationReader" 43, .string "NotationReader$Tape" 98, .string "NotationReader$Tape" 104, .string "NotationReader$Tape" 106, .string "NotationReader" 178, .string "NotationReader" 122, .string "NotationReader" 80, .string "NotationReader" 84, .string "NotationReader" 96, .string "NotationReader" 102, .string "NotationReader" 115, .string "NotationReader" 120, .string "NotationReaderModel" 19, .string "NotationReaderModel" 21, .string "NotationReaderModel" 23, .string "NotationReaderModel" 25, .string "NotationReaderModel" 27, .string "NotationReaderModel" 29, .string "NotationReaderModel" 31, .string "NotationReaderModel" 33, .string "NotationReaderModel" 35, .string "NotationReaderModel" 37, .string "NotationReaderModel" 39, .string "NotationReaderModel" 41, .string "NotationReaderModel" 47, .string "NotationReaderModel" 49, .string "NotationReaderModel" 51, .string "NotationReaderModel" 53, .string "NotationReaderModel" 55, .string "NotationReaderModel" 57, .string "NotationReaderModel" 59, .string "NotationReaderModel" 61, .string "NotationReaderModel" 63, .string "NotationReaderModel" 65, .string "NotationReaderModel" 67, .string "NotationReaderModel" 69, .string "NotationReaderModel" 71, .string "NotationReaderModel" 73, .string "NotationReaderModel" 75, .string "NotationReaderModel" 77, .string "NotationReaderModel" 79, .string "NotationReaderModel" 81, .string "NotationReaderModel" 83, .string "NotationReaderModel" 85, .string "NotationReaderModel" 87, .string "NotationReaderModel" 89, .string "NotationReaderModel" 91, .string "NotationReaderModel" 93, .string "NotationReaderModel" 95, .string "NotationReaderModel" 103, .string "NotationReaderModel" 105, .string "NotationReaderModel" 107, .string "NotationReaderModel" 109, .string "NotationReaderModel" 111, .string "NotationReaderModel" 113, .string "NotationReaderModel" 115, .string "java/util/Arrays" 337, .static "java/util/ArrayList" "DEFAULTCAPACITY_EMPTY_ELEMENTDATA" "[Ljava/lang/Object;", .mirror "[Ljava/lang/Object;", .field (.string "NotationReader" 32) "java/lang/String" "value" "[B", .field (.string "NotationReader" 43) "java/lang/String" "value" "[B", .field (.string "NotationReader$Tape" 98) "java/lang/String" "value" "[B", .field (.string "NotationReader$Tape" 104) "java/lang/String" "value" "[B", .field (.string "NotationReader$Tape" 106) "java/lang/String" "value" "[B", .field (.string "NotationReader" 178) "java/lang/String" "value" "[B", .field (.string "NotationReader" 122) "java/lang/String" "value" "[B", .field (.string "NotationReader" 80) "java/lang/String" "value" "[B", .field (.string "NotationReader" 84) "java/lang/String" "value" "[B", .field (.string "NotationReader" 96) "java/lang/String" "value" "[B", .field (.string "NotationReader" 102) "java/lang/String" "value" "[B", .field (.string "NotationReader" 115) "java/lang/String" "value" "[B", .field (.string "NotationReader" 120) "java/lang/String" "value" "[B", .field (.string "NotationReaderModel" 19) "java/lang/String" "value" "[B", .field (.string "NotationReaderModel" 21) "java/lang/String" "value" "[B", .field (.string "NotationReaderModel" 23) "java/lang/String" "value" "[B", .field (.string "NotationReaderModel" 25) "java/lang/String" "value" "[B", .field (.string "NotationReaderModel" 27) "java/lang/String" "value" "[B", .field (.string "NotationReaderModel" 29) "java/lang/String" "value" "[B", .field (.string "NotationReaderModel" 31) "java/lang/String" "value" "[B", .field (.string "NotationReaderModel" 33) "java/lang/String" "value" "[B", .field (.string "NotationReaderModel" 35) "java/lang/String" "value" "[B", .field (.string "NotationReaderModel" 37) "java/lang/String" "value" "[B", .field (.string "NotationReaderModel" 39) "java/lang/String" "value" "[B", .field (.string "NotationReaderModel" 41) "java/lang/String" "value" "[B", .field (.string "NotationReaderModel" 47) "java/lang/String" "value" "[B", .field (.string "NotationReaderModel" 49) "java/lang/String" "value" "[B", .field (.string "NotationReaderModel" 51) "java/lang/String" "value" "[B", .field (.string "NotationReaderModel" 53) "java/lang/String" "value" "[B", .field (.string "NotationReaderModel" 55) "java/lang/String" "value" "[B", .field (.string "NotationReaderModel" 57) "java/lang/String" "value" "[B", .field (.string "NotationReaderModel" 59) "java/lang/String" "value" "[B", .field (.string "NotationReaderModel" 61) "java/lang/String" "value" "[B", .field (.string "NotationReaderModel" 63) "java/lang/String" "value" "[B", .field (.string "NotationReaderModel" 65) "java/lang/String" "value" "[B", .field (.string "NotationReaderModel" 67) "java/lang/String" "value" "[B", .field (.string "NotationReaderModel" 69) "java/lang/String" "value" "[B", .field (.string "NotationReaderModel" 71) "java/lang/String" "value" "[B", .field (.string "NotationReaderModel" 73) "java/lang/String" "value" "[B", .field (.string "NotationReaderModel" 75) "java/lang/String" "value" "[B", .field (.string "NotationReaderModel" 77) "java/lang/String" "value" "[B", .field (.string "NotationReaderModel" 79) "java/lang/String" "value" "[B", .field (.string "NotationReaderModel" 81) "java/lang/String" "value" "[B", .field (.string "NotationReaderModel" 83) "java/lang/String" "value" "[B", .field (.string "NotationReaderModel" 85) "java/lang/String" "value" "[B", .field (.string "NotationReaderModel" 87) "java/lang/String" "value" "[B", .field (.string "NotationReaderModel" 89) "java/lang/String" "value" "[B", .field (.string "NotationReaderModel" 91) "java/lang/String" "value" "[B", .field (.string "NotationReaderModel" 93) "java/lang/String" "value" "[B", .field (.string "NotationReaderModel" 95) "java/lang/String" "value" "[B", .field (.string "NotationReaderModel" 103) "java/lang/String" "value" "[B", .field (.string "NotationReaderModel" 105) "java/lang/String" "value" "[B", .field (.string "NotationReaderModel" 107) "java/lang/String" "value" "[B", .field (.string "NotationReaderModel" 109) "java/lang/String" "value" "[B", .field (.string "NotationReaderModel" 111) "java/lang/String" "value" "[B", .field (.string "NotationReaderModel" 113) "java/lang/String" "value" "[B", .field (.string "NotationReaderModel" 115) "java/lang/String" "value" "[B", .field (.string "java/util/Arrays" 337) "java/lang/String" "value" "[B", .static "jdk/internal/util/Preconditions" "SIOOBE_FORMATTER" "Ljava/util/function/BiFunction;"]
/-- the texts of the string constants: place, place of the bytes, bytes -/
def x_tx : List (Nat × Nat × List Int32) := [(1, 61, [116, 104, 101, 32, 116, 97, 112, 101, 32, 119, 111, 117, 108, 100, 32, 104, 97, 118, 101, 32, 109, 111, 114, 101, 32, 116, 104, 97, 110, 32, 52, 48, 57, 54, 32, 98, 121, 116, 101, 115]), (2, 62, [116, 104, 101, 32, 116, 97, 112, 101, 32, 104, 97, 115, 32, 110, 111, 32, 115, 117, 99, 104, 32, 108, 101, 110, 103, 116, 104, 32, 116, 111, 32, 107, 101, 101, 112]), (3, 63, [84, 82, 85, 69]), (4, 64, [70, 65, 76, 83, 69]), (5, 65, [78, 85, 76, 76]), (6, 66, [116, 104, 101, 32, 116, 97, 112, 101, 32, 105, 115, 32, 110, 111, 32, 118, 97, 108, 117, 101]), (7, 67, [116, 104, 101, 114, 101, 32, 105, 115, 32, 110, 111, 32, 115, 117, 99, 104, 32, 110, 111, 100, 101]), (8, 68, [119, 104, 97, 116, 32, 105, 115, 32, 48, 32, 46, 46, 32, 51]), (9, 69, [116, 104, 101, 32, 110, 111, 100, 101, 32, 104, 97, 115, 32, 110, 111, 32, 115, 117, 99, 104, 32, 112, 97, 114, 116]), (10, 70, [116, 104, 101, 32, 110, 111, 100, 101, 32, 105, 115, 32, 110, 111, 32, 110, 117, 109, 98, 101, 114]), (11, 71, [116, 104, 101, 32, 110, 111, 100, 101, 32, 104, 97, 115, 32, 110, 111, 32, 115, 117, 99, 104, 32, 100, 105, 103, 105, 116, 32, 111, 114, 32, 98, 121, 116, 101]), (12, 72, [97, 32, 110, 111, 100, 101, 32, 105, 115, 32, 110, 111, 32, 105, 100, 101, 110, 116, 105, 102, 105, 101, 114]), (13, 73, [119, 104, 97, 116, 32, 105, 115, 32, 48, 32, 111, 114, 32, 49]), (14, 74, [58, 58, 61]), (15, 75, [46, 46, 46]), (16, 76, [46, 46]), (17, 77, [123]), (18, 78, [125]), (19, 79, [40]), (20, 80, [41]), (21, 81, [91]), (22, 82, [93]), (23, 83, [44]), (24, 84, [58]), (25, 85, [45]), (26, 86, [68, 69, 70, 73, 78, 73, 84, 73, 79, 78, 83]), (27, 87, [69, 88, 80, 76, 73, 67, 73, 84]), (28, 88, [73, 77, 80, 76, 73, 67, 73, 84]), (29, 89, [65, 85, 84, 79, 77, 65, 84, 73, 67]), (30, 90, [84, 65, 71, 83]), (31, 91, [66, 69, 71, 73, 78]), (32, 92, [69, 78, 68]), (33, 93, [85, 78, 73, 86, 69, 82, 83, 65, 76]), (34, 94, [65, 80, 80, 76, 73, 67, 65, 84, 73, 79, 78]), (35, 95, [80, 82, 73, 86, 65, 84, 69]), (36, 96, [73, 78, 84, 69, 71, 69, 82]), (37, 97, [69, 78, 85, 77, 69, 82, 65, 84, 69, 68]), (38, 98, [66, 73, 84]), (39, 99, [83, 84, 82, 73, 78, 71]), (40, 100, [79, 67, 84, 69, 84]), (41, 101, [79, 66, 74, 69, 67, 84]), (42, 102, [73, 68, 69, 78, 84, 73, 70, 73, 69, 82]), (43, 103, [83, 69, 81, 85, 69, 78, 67, 69]), (44, 104, [83, 69, 84]), (45, 105, [79, 70]), (46, 106, [67, 72, 79, 73, 67, 69]), (47, 107, [83, 73, 90, 69]), (48, 108, [79, 80, 84, 73, 79, 78, 65, 76]), (49, 109, [68, 69, 70, 65, 85, 76, 84]), (50, 110, [66, 79, 79, 76, 69, 65, 78]), (51, 111, [77, 73, 78]), (52, 112, [77, 65, 88]), (53, 113, [85, 84, 70, 56, 83, 116, 114, 105, 110, 103]), (54, 114, [80, 114, 105, 110, 116, 97, 98, 108, 101, 83, 116, 114, 105, 110, 103]), (55, 115, [73, 65, 53, 83, 116, 114, 105, 110, 103]), (56, 116, [78, 117, 109, 101, 114, 105, 99, 83, 116, 114, 105, 110, 103]), (57, 117, [86, 105, 115, 105, 98, 108, 101, 83, 116, 114, 105, 110, 103]), (58, 118, [32, 62, 32])]
def x_tp : List Nat := [283, 327, 366, 374, 383, 391, 415, 440, 458, 487, 512, 550, 577, 595, 602, 609, 615, 620, 625, 630, 635, 640, 645, 650, 655, 660, 675, 687, 699, 712, 720, 729, 736, 749, 764, 775, 786, 800, 807, 817, 826, 836, 850, 862, 869, 875, 885, 893, 905, 916, 955, 962, 969, 983, 1002, 1015, 1032, 1049]
def x_exs : List Nat := [1, 2, 3, 4, 5, 6, 7, 8, 9, 10, 11, 12, 13, 14, 15, 16, 17, 18, 19, 20, 21, 22, 23, 24, 25, 26, 27, 28, 29, 30, 31, 32, 33, 34, 35, 36, 37, 38, 39, 40, 41, 42, 43, 44, 45, 46, 47, 48, 49, 50, 51, 52, 53, 54, 55, 56, 57, 58, 59]
def x_oo : Nat → Option (Nat × List Value) := fun w => (x_tx.find? (fun q => q.1 == w)).map (fun q => (9, [.float (UInt32.ofNat q.2.1), .int 0]))
end
section
/-! what the words give of the tables; made by wip/whole/gen/tables.py -/
abbrev x_nar : Jvm.Cond := Jvm.Cond.and given_1 narrow_1
def x_fln (w : Jvm.Cond) : Bool := match w with
  | .fieldLinkNest _ _ _ _ _ _ => true
  | _ => false
def x_g (w : Jvm.Cond) : Bool := w.onTables && (w.keepsFace || x_fln w)
def x_Ts : List Jvm.Cond := lw_tbl.filter x_g
theorem tl {w : Jvm.Cond} (h : w ∈ lw_tbl) (hg : x_g w = true) : w ∈ x_Ts := List.mem_filter.mpr ⟨h, hg⟩
theorem tm {w : Jvm.Cond} (i : Nat) (h : (tables_1[i]? = some w ∧ x_g w = true)) : w ∈ x_Ts := tl (List.mem_append.mpr (Or.inr (List.mem_of_getElem? h.1))) h.2
theorem ts {w : Jvm.Cond} (h : (w ∈ k2_sels lw_privs ∧ x_g w = true)) : w ∈ x_Ts := tl (List.mem_append.mpr (Or.inl h.1)) h.2
def xR13 : ByteArray := ⟨#[0x2a, 0x2b, 0xb7, 0x00, 0x0d, 0xb1]⟩
def xNames : List String := ["java/lang/RuntimeException", "java/lang/Exception"]
def x_isZ (w : Jvm.Cond) : Bool := decide (w = .laysStatic Bundle.tN "UNASSIGNED_STACK" Bundle.steD) || decide (w = .laysStatic Bundle.tN "SUPPRESSED_SENTINEL" Bundle.listD) || decide (w = .isRef (.static Bundle.tN "UNASSIGNED_STACK" Bundle.steD)) || decide (w = .isRef (.static Bundle.tN "SUPPRESSED_SENTINEL" Bundle.listD))
theorem tmz {L : List Jvm.Cond} (h : L.all (fun w => x_isZ w || (lw_tbl.contains w && x_g w)) = true) : ∀ w ∈ L, ab_isZ w ∨ w ∈ x_Ts := by
  intro w hw
  have z := List.all_eq_true.mp h w hw
  simp only [Bool.or_eq_true, Bool.and_eq_true] at z
  rcases z with z | z
  · left
    simp only [x_isZ, Bool.or_eq_true, decide_eq_true_eq] at z
    unfold ab_isZ
    rcases z with ((z | z) | z) | z
    · exact Or.inl z
    · exact Or.inr (Or.inl z)
    · exact Or.inr (Or.inr (Or.inl z))
    · exact Or.inr (Or.inr (Or.inr z))
  · right
    exact tl (by simpa using z.1) z.2
theorem tr {w : Jvm.Cond} (i : Nat) (h : tables_1[i]? = some w) : w ∈ lw_tbl := List.mem_append.mpr (Or.inr (List.mem_of_getElem? h))
def x_p7 (vS : Value) (own : String) (x : Nat) (n : ab_N) : Prop := match n with
  | (7, _, _, .float w) => ∃ t0 : Term, x_trms[w.toNat]? = some t0 ∧ w.toNat ∈ x_exs ∧ (t0 = .string own x ∨ (Cond.eq t0 (.string own x) ∈ flatC x_nar ∧ Cond.exactly (.string own x) "java/lang/String" ∈ flatC x_nar)) ∧ ∃ tx : String, Cond.stringRef own x tx ∈ lw_tbl
  | (4, _, _, v) => (v = .float 59 ∧ Cond.fieldLink own x "java/util/ArrayList" "DEFAULTCAPACITY_EMPTY_ELEMENTDATA" "[Ljava/lang/Object;" ∈ x_Ts) ∨ (v = .int 1 ∧ Cond.fieldLink own x "java/lang/String" "COMPACT_STRINGS" "Z" ∈ x_Ts) ∨ (v = vS ∧ Cond.fieldLink own x "jdk/internal/util/Preconditions" "SIOOBE_FORMATTER" "Ljava/util/function/BiFunction;" ∈ x_Ts)
  | (15, _, _, .float w) => w.toNat = 60 ∧ Cond.classLink own x "[Ljava/lang/Object;" ∈ x_Ts
  | (16, t, _, .float w) => w.toNat = 60 ∧ t = 5 ∧ True
  | _ => True
def x_all (vS : Value) (own : String) (x : Nat) (n : ab_N) : Prop := ab_pe x_cl x_Ts own x n ∧ ab_pm x_Ts (x_mt vS) own x n ∧ ab_p11 x_cl x_Ts own x n ∧ ab_p4 x_cl x_aty x_Ts own x n ∧ ab_p9 x_cl x_Ts own x n ∧ ab_p5 x_cl x_Ts (x_mt vS) own x n ∧ ab_q5 x_aty x_Ts own x n ∧ x_p7 vS own x n
theorem xe0 (vS : Value) : x_all vS "NotationReaderLaw" 8 (2, 0, 0, .null) := ⟨⟨_, rfl, tm 29 (by decide +kernel), tm 30 (by decide +kernel), tm 1 (by decide +kernel)⟩, trivial, trivial, trivial, trivial, trivial, trivial, trivial⟩
theorem xe1 (vS : Value) : x_all vS "NotationReaderLaw" 50 (1, 93, 0, .null) := ⟨trivial, ⟨_, rfl, Or.inl ⟨rfl, tm 31 (by decide +kernel)⟩⟩, trivial, trivial, trivial, trivial, trivial, trivial⟩
theorem xe2 (vS : Value) : x_all vS "NotationReaderLaw" 51 (2, 3, 0, .null) := ⟨⟨_, rfl, tm 629 (by decide +kernel), tm 630 (by decide +kernel), tm 7 (by decide +kernel)⟩, trivial, trivial, trivial, trivial, trivial, trivial, trivial⟩
theorem xe3 (vS : Value) : x_all vS "NotationReaderLaw" 53 (1, 10, 0, .null) := ⟨trivial, ⟨_, rfl, Or.inl ⟨rfl, tm 631 (by decide +kernel)⟩⟩, trivial, trivial, trivial, trivial, trivial, trivial⟩
theorem xe4 (vS : Value) : x_all vS "NotationReaderLaw" 54 (1, 1, 0, .null) := ⟨trivial, ⟨_, rfl, Or.inl ⟨rfl, tm 139 (by decide +kernel)⟩⟩, trivial, trivial, trivial, trivial, trivial, trivial⟩
theorem xe5 (vS : Value) : x_all vS "NotationReaderLaw" 59 (1, 35, 2, .null) := ⟨trivial, ⟨_, rfl, Or.inr (Or.inr (Or.inl ⟨rfl, tm 754 (by decide +kernel), tm 756 (by decide +kernel)⟩))⟩, trivial, trivial, trivial, trivial, trivial, trivial⟩
theorem xe6 (vS : Value) : x_all vS "NotationReaderLaw" 60 (1, 2, 0, .null) := ⟨trivial, ⟨_, rfl, Or.inl ⟨rfl, tm 219 (by decide +kernel)⟩⟩, trivial, trivial, trivial, trivial, trivial, trivial⟩
theorem xe7 (vS : Value) : x_all vS "NotationReaderLaw" 63 (1, 36, 2, .null) := ⟨trivial, ⟨_, rfl, Or.inr (Or.inr (Or.inl ⟨rfl, tm 762 (by decide +kernel), tm 764 (by decide +kernel)⟩))⟩, trivial, trivial, trivial, trivial, trivial, trivial⟩
theorem xe8 (vS : Value) : x_all vS "NotationReaderLaw" 64 (1, 3, 0, .null) := ⟨trivial, ⟨_, rfl, Or.inl ⟨rfl, tm 243 (by decide +kernel)⟩⟩, trivial, trivial, trivial, trivial, trivial, trivial⟩
theorem xe9 (vS : Value) : x_all vS "NotationReaderLaw" 67 (1, 37, 2, .null) := ⟨trivial, ⟨_, rfl, Or.inr (Or.inr (Or.inl ⟨rfl, tm 766 (by decide +kernel), tm 768 (by decide +kernel)⟩))⟩, trivial, trivial, trivial, trivial, trivial, trivial⟩
theorem xe10 (vS : Value) : x_all vS "NotationReaderLaw" 68 (1, 97, 2, .null) := ⟨trivial, ⟨_, rfl, Or.inr (Or.inr (Or.inl ⟨rfl, tm 135 (by decide +kernel), tm 137 (by decide +kernel)⟩))⟩, trivial, trivial, trivial, trivial, trivial, trivial⟩
theorem xe11 (vS : Value) : x_all vS "NotationReaderLaw" 71 (1, 38, 2, .null) := ⟨trivial, ⟨_, rfl, Or.inr (Or.inr (Or.inl ⟨rfl, tm 1143 (by decide +kernel), tm 1145 (by decide +kernel)⟩))⟩, trivial, trivial, trivial, trivial, trivial, trivial⟩
theorem xe12 (vS : Value) : x_all vS "NotationReaderLaw" 72 (1, 4, 0, .null) := ⟨trivial, ⟨_, rfl, Or.inl ⟨rfl, tm 539 (by decide +kernel)⟩⟩, trivial, trivial, trivial, trivial, trivial, trivial⟩
theorem xe13 (vS : Value) : x_all vS "NotationReaderLaw" 75 (1, 41, 2, .null) := ⟨trivial, ⟨_, rfl, Or.inr (Or.inr (Or.inl ⟨rfl, tm 1147 (by decide +kernel), tm 1149 (by decide +kernel)⟩))⟩, trivial, trivial, trivial, trivial, trivial, trivial⟩
theorem xe14 (vS : Value) : x_all vS "NotationReaderLaw" 76 (1, 5, 0, .null) := ⟨trivial, ⟨_, rfl, Or.inl ⟨rfl, tm 568 (by decide +kernel)⟩⟩, trivial, trivial, trivial, trivial, trivial, trivial⟩
theorem xe15 (vS : Value) : x_all vS "NotationReaderLaw" 78 (1, 42, 2, .null) := ⟨trivial, ⟨_, rfl, Or.inr (Or.inr (Or.inl ⟨rfl, tm 1159 (by decide +kernel), tm 1161 (by decide +kernel)⟩))⟩, trivial, trivial, trivial, trivial, trivial, trivial⟩
theorem xe16 (vS : Value) : x_all vS "NotationReaderLaw" 79 (1, 6, 0, .null) := ⟨trivial, ⟨_, rfl, Or.inl ⟨rfl, tm 592 (by decide +kernel)⟩⟩, trivial, trivial, trivial, trivial, trivial, trivial⟩
theorem xe17 (vS : Value) : x_all vS "NotationReaderLaw" 81 (1, 43, 2, .null) := ⟨trivial, ⟨_, rfl, Or.inr (Or.inr (Or.inl ⟨rfl, tm 1163 (by decide +kernel), tm 1165 (by decide +kernel)⟩))⟩, trivial, trivial, trivial, trivial, trivial, trivial⟩
theorem xe18 (vS : Value) : x_all vS "NotationReaderLaw" 82 (1, 7, 0, .null) := ⟨trivial, ⟨_, rfl, Or.inl ⟨rfl, tm 600 (by decide +kernel)⟩⟩, trivial, trivial, trivial, trivial, trivial, trivial⟩
theorem xe19 (vS : Value) : x_all vS "NotationReaderLaw" 84 (1, 44, 2, .null) := ⟨trivial, ⟨_, rfl, Or.inr (Or.inr (Or.inl ⟨rfl, tm 1167 (by decide +kernel), tm 1169 (by decide +kernel)⟩))⟩, trivial, trivial, trivial, trivial, trivial, trivial⟩
theorem xe20 (vS : Value) : x_all vS "NotationReaderLaw" 85 (1, 8, 0, .null) := ⟨trivial, ⟨_, rfl, Or.inl ⟨rfl, tm 609 (by decide +kernel)⟩⟩, trivial, trivial, trivial, trivial, trivial, trivial⟩
theorem xe21 (vS : Value) : x_all vS "NotationReaderLaw" 87 (1, 45, 2, .null) := ⟨trivial, ⟨_, rfl, Or.inr (Or.inr (Or.inl ⟨rfl, tm 1171 (by decide +kernel), tm 1173 (by decide +kernel)⟩))⟩, trivial, trivial, trivial, trivial, trivial, trivial⟩
theorem xe22 (vS : Value) : x_all vS "NotationReaderLaw" 88 (1, 9, 0, .null) := ⟨trivial, ⟨_, rfl, Or.inl ⟨rfl, tm 621 (by decide +kernel)⟩⟩, trivial, trivial, trivial, trivial, trivial, trivial⟩
theorem xe23 (vS : Value) : x_all vS "NotationReaderLaw" 90 (1, 46, 2, .null) := ⟨trivial, ⟨_, rfl, Or.inr (Or.inr (Or.inl ⟨rfl, tm 1175 (by decide +kernel), tm 1177 (by decide +kernel)⟩))⟩, trivial, trivial, trivial, trivial, trivial, trivial⟩
theorem xe24 (vS : Value) : x_all vS "NotationReaderLaw" 91 (1, 11, 2, .null) := ⟨trivial, ⟨_, rfl, Or.inr (Or.inr (Or.inl ⟨rfl, tm 750 (by decide +kernel), tm 752 (by decide +kernel)⟩))⟩, trivial, trivial, trivial, trivial, trivial, trivial⟩
theorem xe25 (vS : Value) : x_all vS "NotationReaderLaw" 7 (1, 94, 2, .null) := ⟨trivial, ⟨_, rfl, Or.inr (Or.inr (Or.inl ⟨rfl, tm 143 (by decide +kernel), tm 145 (by decide +kernel)⟩))⟩, trivial, trivial, trivial, trivial, trivial, trivial⟩
theorem xe26 (vS : Value) : x_all vS "NotationReaderLaw" 13 (11, 5, 0, .null) := ⟨trivial, trivial, ⟨by decide, _, rfl, tm 142 (by decide +kernel)⟩, trivial, trivial, trivial, trivial, trivial⟩
theorem xe27 (vS : Value) : x_all vS "NotationReaderLaw" 15 (1, 95, 2, .null) := ⟨trivial, ⟨_, rfl, Or.inr (Or.inr (Or.inl ⟨rfl, tm 223 (by decide +kernel), tm 225 (by decide +kernel)⟩))⟩, trivial, trivial, trivial, trivial, trivial, trivial⟩
theorem xe28 (vS : Value) : x_all vS "NotationReaderLaw" 19 (11, 6, 0, .null) := ⟨trivial, trivial, ⟨by decide, _, rfl, tm 222 (by decide +kernel)⟩, trivial, trivial, trivial, trivial, trivial⟩
theorem xe29 (vS : Value) : x_all vS "NotationReaderLaw" 21 (1, 96, 2, .null) := ⟨trivial, ⟨_, rfl, Or.inr (Or.inr (Or.inl ⟨rfl, tm 247 (by decide +kernel), tm 249 (by decide +kernel)⟩))⟩, trivial, trivial, trivial, trivial, trivial, trivial⟩
theorem xe30 (vS : Value) : x_all vS "NotationReaderLaw" 25 (11, 7, 0, .null) := ⟨trivial, trivial, ⟨by decide, _, rfl, tm 246 (by decide +kernel)⟩, trivial, trivial, trivial, trivial, trivial⟩
theorem xe31 (vS : Value) : x_all vS "NotationReaderLaw" 27 (1, 98, 2, .null) := ⟨trivial, ⟨_, rfl, Or.inr (Or.inr (Or.inl ⟨rfl, tm 542 (by decide +kernel), tm 544 (by decide +kernel)⟩))⟩, trivial, trivial, trivial, trivial, trivial, trivial⟩
theorem xe32 (vS : Value) : x_all vS "NotationReaderLaw" 31 (1, 99, 2, .null) := ⟨trivial, ⟨_, rfl, Or.inr (Or.inr (Or.inl ⟨rfl, tm 572 (by decide +kernel), tm 574 (by decide +kernel)⟩))⟩, trivial, trivial, trivial, trivial, trivial, trivial⟩
theorem xe33 (vS : Value) : x_all vS "NotationReaderLaw" 34 (11, 8, 0, .null) := ⟨trivial, trivial, ⟨by decide, _, rfl, tm 571 (by decide +kernel)⟩, trivial, trivial, trivial, trivial, trivial⟩
theorem xe34 (vS : Value) : x_all vS "NotationReaderLaw" 36 (1, 100, 2, .null) := ⟨trivial, ⟨_, rfl, Or.inr (Or.inr (Or.inl ⟨rfl, tm 595 (by decide +kernel), tm 597 (by decide +kernel)⟩))⟩, trivial, trivial, trivial, trivial, trivial, trivial⟩
theorem xe35 (vS : Value) : x_all vS "NotationReaderLaw" 40 (1, 101, 2, .null) := ⟨trivial, ⟨_, rfl, Or.inr (Or.inr (Or.inl ⟨rfl, tm 603 (by decide +kernel), tm 605 (by decide +kernel)⟩))⟩, trivial, trivial, trivial, trivial, trivial, trivial⟩
theorem xe36 (vS : Value) : x_all vS "NotationReaderLaw" 43 (1, 102, 2, .null) := ⟨trivial, ⟨_, rfl, Or.inr (Or.inr (Or.inl ⟨rfl, tm 612 (by decide +kernel), tm 614 (by decide +kernel)⟩))⟩, trivial, trivial, trivial, trivial, trivial, trivial⟩
theorem xe37 (vS : Value) : x_all vS "NotationReaderLaw" 47 (1, 103, 2, .null) := ⟨trivial, ⟨_, rfl, Or.inr (Or.inr (Or.inl ⟨rfl, tm 624 (by decide +kernel), tm 626 (by decide +kernel)⟩))⟩, trivial, trivial, trivial, trivial, trivial, trivial⟩
theorem xe38 (vS : Value) : x_all vS "NotationReaderModel" 1 (5, 0, 0, .null) := ⟨trivial, ⟨tm 634 (by decide +kernel), tm 35 (by decide +kernel), tm 36 (by decide +kernel)⟩, trivial, trivial, trivial, trivial, trivial, trivial⟩
theorem xe39 (vS : Value) : x_all vS "NotationReaderModel" 7 (0, 3, 1, .int 1) := ⟨⟨_, "NotationReaderModel", rfl, by decide, tm 687 (by decide +kernel), Or.inl rfl, fun _ => ⟨rfl, rfl⟩⟩, trivial, trivial, trivial, trivial, trivial, trivial, trivial⟩
theorem xe40 (vS : Value) : x_all vS "NotationReaderModel" 13 (0, 3, 3, .null) := ⟨⟨_, "NotationReaderModel", rfl, by decide, tm 689 (by decide +kernel), Or.inl rfl, fun h => by cases h⟩, trivial, trivial, trivial, trivial, trivial, trivial, trivial⟩
theorem xe41 (vS : Value) : x_all vS "NotationReaderModel" 17 (6, 3, 0, .null) := ⟨trivial, trivial, trivial, ⟨_, rfl, tm 635 (by decide +kernel)⟩, trivial, trivial, trivial, trivial⟩
theorem xe42 (vS : Value) : x_all vS "NotationReaderModel" 19 (7, 0, 0, .float 14) := ⟨trivial, trivial, trivial, trivial, trivial, trivial, trivial, ⟨_, rfl, by decide +kernel, Or.inl rfl, "::=", tr 637 (by decide +kernel)⟩⟩
theorem xe43 (vS : Value) : x_all vS "NotationReaderModel" 21 (7, 0, 0, .float 15) := ⟨trivial, trivial, trivial, trivial, trivial, trivial, trivial, ⟨_, rfl, by decide +kernel, Or.inl rfl, "...", tr 638 (by decide +kernel)⟩⟩
theorem xe44 (vS : Value) : x_all vS "NotationReaderModel" 23 (7, 0, 0, .float 16) := ⟨trivial, trivial, trivial, trivial, trivial, trivial, trivial, ⟨_, rfl, by decide +kernel, Or.inl rfl, "..", tr 639 (by decide +kernel)⟩⟩
theorem xe45 (vS : Value) : x_all vS "NotationReaderModel" 25 (7, 0, 0, .float 17) := ⟨trivial, trivial, trivial, trivial, trivial, trivial, trivial, ⟨_, rfl, by decide +kernel, Or.inl rfl, "{", tr 640 (by decide +kernel)⟩⟩
theorem xe46 (vS : Value) : x_all vS "NotationReaderModel" 27 (7, 0, 0, .float 18) := ⟨trivial, trivial, trivial, trivial, trivial, trivial, trivial, ⟨_, rfl, by decide +kernel, Or.inl rfl, "}", tr 641 (by decide +kernel)⟩⟩
theorem xe47 (vS : Value) : x_all vS "NotationReaderModel" 29 (7, 0, 0, .float 19) := ⟨trivial, trivial, trivial, trivial, trivial, trivial, trivial, ⟨_, rfl, by decide +kernel, Or.inl rfl, "(", tr 642 (by decide +kernel)⟩⟩
theorem xe48 (vS : Value) : x_all vS "NotationReaderModel" 31 (7, 0, 0, .float 20) := ⟨trivial, trivial, trivial, trivial, trivial, trivial, trivial, ⟨_, rfl, by decide +kernel, Or.inl rfl, ")", tr 643 (by decide +kernel)⟩⟩
theorem xe49 (vS : Value) : x_all vS "NotationReaderModel" 33 (7, 0, 0, .float 21) := ⟨trivial, trivial, trivial, trivial, trivial, trivial, trivial, ⟨_, rfl, by decide +kernel, Or.inl rfl, "[", tr 644 (by decide +kernel)⟩⟩
theorem xe50 (vS : Value) : x_all vS "NotationReaderModel" 35 (7, 0, 0, .float 22) := ⟨trivial, trivial, trivial, trivial, trivial, trivial, trivial, ⟨_, rfl, by decide +kernel, Or.inl rfl, "]", tr 645 (by decide +kernel)⟩⟩
theorem xe51 (vS : Value) : x_all vS "NotationReaderModel" 37 (7, 0, 0, .float 23) := ⟨trivial, trivial, trivial, trivial, trivial, trivial, trivial, ⟨_, rfl, by decide +kernel, Or.inl rfl, ",", tr 646 (by decide +kernel)⟩⟩
theorem xe52 (vS : Value) : x_all vS "NotationReaderModel" 39 (7, 0, 0, .float 24) := ⟨trivial, trivial, trivial, trivial, trivial, trivial, trivial, ⟨_, rfl, by decide +kernel, Or.inl rfl, ":", tr 647 (by decide +kernel)⟩⟩
theorem xe53 (vS : Value) : x_all vS "NotationReaderModel" 41 (7, 0, 0, .float 25) := ⟨trivial, trivial, trivial, trivial, trivial, trivial, trivial, ⟨_, rfl, by decide +kernel, Or.inl rfl, "-", tr 648 (by decide +kernel)⟩⟩
theorem xe54 (vS : Value) : x_all vS "NotationReaderModel" 43 (0, 3, 4, .int 1) := ⟨⟨_, "NotationReaderModel", rfl, by decide, tm 690 (by decide +kernel), Or.inl rfl, fun _ => ⟨rfl, rfl⟩⟩, trivial, trivial, trivial, trivial, trivial, trivial, trivial⟩
theorem xe55 (vS : Value) : x_all vS "NotationReaderModel" 47 (7, 0, 0, .float 26) := ⟨trivial, trivial, trivial, trivial, trivial, trivial, trivial, ⟨_, rfl, by decide +kernel, Or.inl rfl, "DEFINITIONS", tr 649 (by decide +kernel)⟩⟩
theorem xe56 (vS : Value) : x_all vS "NotationReaderModel" 49 (7, 0, 0, .float 27) := ⟨trivial, trivial, trivial, trivial, trivial, trivial, trivial, ⟨_, rfl, by decide +kernel, Or.inl rfl, "EXPLICIT", tr 650 (by decide +kernel)⟩⟩
theorem xe57 (vS : Value) : x_all vS "NotationReaderModel" 51 (7, 0, 0, .float 28) := ⟨trivial, trivial, trivial, trivial, trivial, trivial, trivial, ⟨_, rfl, by decide +kernel, Or.inl rfl, "IMPLICIT", tr 651 (by decide +kernel)⟩⟩
theorem xe58 (vS : Value) : x_all vS "NotationReaderModel" 53 (7, 0, 0, .float 29) := ⟨trivial, trivial, trivial, trivial, trivial, trivial, trivial, ⟨_, rfl, by decide +kernel, Or.inl rfl, "AUTOMATIC", tr 652 (by decide +kernel)⟩⟩
theorem xe59 (vS : Value) : x_all vS "NotationReaderModel" 55 (7, 0, 0, .float 30) := ⟨trivial, trivial, trivial, trivial, trivial, trivial, trivial, ⟨_, rfl, by decide +kernel, Or.inl rfl, "TAGS", tr 653 (by decide +kernel)⟩⟩
theorem xe60 (vS : Value) : x_all vS "NotationReaderModel" 57 (7, 0, 0, .float 31) := ⟨trivial, trivial, trivial, trivial, trivial, trivial, trivial, ⟨_, rfl, by decide +kernel, Or.inl rfl, "BEGIN", tr 654 (by decide +kernel)⟩⟩
theorem xe61 (vS : Value) : x_all vS "NotationReaderModel" 59 (7, 0, 0, .float 32) := ⟨trivial, trivial, trivial, trivial, trivial, trivial, trivial, ⟨_, rfl, by decide +kernel, Or.inl rfl, "END", tr 655 (by decide +kernel)⟩⟩
theorem xe62 (vS : Value) : x_all vS "NotationReaderModel" 61 (7, 0, 0, .float 33) := ⟨trivial, trivial, trivial, trivial, trivial, trivial, trivial, ⟨_, rfl, by decide +kernel, Or.inl rfl, "UNIVERSAL", tr 656 (by decide +kernel)⟩⟩
theorem xe63 (vS : Value) : x_all vS "NotationReaderModel" 63 (7, 0, 0, .float 34) := ⟨trivial, trivial, trivial, trivial, trivial, trivial, trivial, ⟨_, rfl, by decide +kernel, Or.inl rfl, "APPLICATION", tr 657 (by decide +kernel)⟩⟩
theorem xe64 (vS : Value) : x_all vS "NotationReaderModel" 65 (7, 0, 0, .float 35) := ⟨trivial, trivial, trivial, trivial, trivial, trivial, trivial, ⟨_, rfl, by decide +kernel, Or.inl rfl, "PRIVATE", tr 658 (by decide +kernel)⟩⟩
theorem xe65 (vS : Value) : x_all vS "NotationReaderModel" 67 (7, 0, 0, .float 36) := ⟨trivial, trivial, trivial, trivial, trivial, trivial, trivial, ⟨_, rfl, by decide +kernel, Or.inl rfl, "INTEGER", tr 659 (by decide +kernel)⟩⟩
theorem xe66 (vS : Value) : x_all vS "NotationReaderModel" 69 (7, 0, 0, .float 37) := ⟨trivial, trivial, trivial, trivial, trivial, trivial, trivial, ⟨_, rfl, by decide +kernel, Or.inl rfl, "ENUMERATED", tr 660 (by decide +kernel)⟩⟩
theorem xe67 (vS : Value) : x_all vS "NotationReaderModel" 71 (7, 0, 0, .float 38) := ⟨trivial, trivial, trivial, trivial, trivial, trivial, trivial, ⟨_, rfl, by decide +kernel, Or.inl rfl, "BIT", tr 661 (by decide +kernel)⟩⟩
theorem xe68 (vS : Value) : x_all vS "NotationReaderModel" 73 (7, 0, 0, .float 39) := ⟨trivial, trivial, trivial, trivial, trivial, trivial, trivial, ⟨_, rfl, by decide +kernel, Or.inl rfl, "STRING", tr 662 (by decide +kernel)⟩⟩
theorem xe69 (vS : Value) : x_all vS "NotationReaderModel" 75 (7, 0, 0, .float 40) := ⟨trivial, trivial, trivial, trivial, trivial, trivial, trivial, ⟨_, rfl, by decide +kernel, Or.inl rfl, "OCTET", tr 663 (by decide +kernel)⟩⟩
theorem xe70 (vS : Value) : x_all vS "NotationReaderModel" 77 (7, 0, 0, .float 41) := ⟨trivial, trivial, trivial, trivial, trivial, trivial, trivial, ⟨_, rfl, by decide +kernel, Or.inl rfl, "OBJECT", tr 664 (by decide +kernel)⟩⟩
theorem xe71 (vS : Value) : x_all vS "NotationReaderModel" 79 (7, 0, 0, .float 42) := ⟨trivial, trivial, trivial, trivial, trivial, trivial, trivial, ⟨_, rfl, by decide +kernel, Or.inl rfl, "IDENTIFIER", tr 665 (by decide +kernel)⟩⟩
theorem xe72 (vS : Value) : x_all vS "NotationReaderModel" 81 (7, 0, 0, .float 43) := ⟨trivial, trivial, trivial, trivial, trivial, trivial, trivial, ⟨_, rfl, by decide +kernel, Or.inl rfl, "SEQUENCE", tr 666 (by decide +kernel)⟩⟩
theorem xe73 (vS : Value) : x_all vS "NotationReaderModel" 83 (7, 0, 0, .float 44) := ⟨trivial, trivial, trivial, trivial, trivial, trivial, trivial, ⟨_, rfl, by decide +kernel, Or.inl rfl, "SET", tr 667 (by decide +kernel)⟩⟩
theorem xe74 (vS : Value) : x_all vS "NotationReaderModel" 85 (7, 0, 0, .float 45) := ⟨trivial, trivial, trivial, trivial, trivial, trivial, trivial, ⟨_, rfl, by decide +kernel, Or.inl rfl, "OF", tr 668 (by decide +kernel)⟩⟩
theorem xe75 (vS : Value) : x_all vS "NotationReaderModel" 87 (7, 0, 0, .float 46) := ⟨trivial, trivial, trivial, trivial, trivial, trivial, trivial, ⟨_, rfl, by decide +kernel, Or.inl rfl, "CHOICE", tr 669 (by decide +kernel)⟩⟩
theorem xe76 (vS : Value) : x_all vS "NotationReaderModel" 89 (7, 0, 0, .float 47) := ⟨trivial, trivial, trivial, trivial, trivial, trivial, trivial, ⟨_, rfl, by decide +kernel, Or.inl rfl, "SIZE", tr 670 (by decide +kernel)⟩⟩
theorem xe77 (vS : Value) : x_all vS "NotationReaderModel" 91 (7, 0, 0, .float 48) := ⟨trivial, trivial, trivial, trivial, trivial, trivial, trivial, ⟨_, rfl, by decide +kernel, Or.inl rfl, "OPTIONAL", tr 671 (by decide +kernel)⟩⟩
theorem xe78 (vS : Value) : x_all vS "NotationReaderModel" 93 (7, 0, 0, .float 49) := ⟨trivial, trivial, trivial, trivial, trivial, trivial, trivial, ⟨_, rfl, by decide +kernel, Or.inl rfl, "DEFAULT", tr 672 (by decide +kernel)⟩⟩
theorem xe79 (vS : Value) : x_all vS "NotationReaderModel" 95 (7, 0, 0, .float 50) := ⟨trivial, trivial, trivial, trivial, trivial, trivial, trivial, ⟨_, rfl, by decide +kernel, Or.inl rfl, "BOOLEAN", tr 673 (by decide +kernel)⟩⟩
theorem xe80 (vS : Value) : x_all vS "NotationReaderModel" 97 (7, 0, 0, .float 3) := ⟨trivial, trivial, trivial, trivial, trivial, trivial, trivial, ⟨_, rfl, by decide +kernel, Or.inr ⟨List.mem_of_getElem? (i := 935) (by decide +kernel), List.mem_of_getElem? (i := 927) (by decide +kernel)⟩, "TRUE", tr 674 (by decide +kernel)⟩⟩
theorem xe81 (vS : Value) : x_all vS "NotationReaderModel" 99 (7, 0, 0, .float 4) := ⟨trivial, trivial, trivial, trivial, trivial, trivial, trivial, ⟨_, rfl, by decide +kernel, Or.inr ⟨List.mem_of_getElem? (i := 945) (by decide +kernel), List.mem_of_getElem? (i := 936) (by decide +kernel)⟩, "FALSE", tr 675 (by decide +kernel)⟩⟩
theorem xe82 (vS : Value) : x_all vS "NotationReaderModel" 101 (7, 0, 0, .float 5) := ⟨trivial, trivial, trivial, trivial, trivial, trivial, trivial, ⟨_, rfl, by decide +kernel, Or.inr ⟨List.mem_of_getElem? (i := 954) (by decide +kernel), List.mem_of_getElem? (i := 946) (by decide +kernel)⟩, "NULL", tr 676 (by decide +kernel)⟩⟩
theorem xe83 (vS : Value) : x_all vS "NotationReaderModel" 103 (7, 0, 0, .float 51) := ⟨trivial, trivial, trivial, trivial, trivial, trivial, trivial, ⟨_, rfl, by decide +kernel, Or.inl rfl, "MIN", tr 677 (by decide +kernel)⟩⟩
theorem xe84 (vS : Value) : x_all vS "NotationReaderModel" 105 (7, 0, 0, .float 52) := ⟨trivial, trivial, trivial, trivial, trivial, trivial, trivial, ⟨_, rfl, by decide +kernel, Or.inl rfl, "MAX", tr 678 (by decide +kernel)⟩⟩
theorem xe85 (vS : Value) : x_all vS "NotationReaderModel" 107 (7, 0, 0, .float 53) := ⟨trivial, trivial, trivial, trivial, trivial, trivial, trivial, ⟨_, rfl, by decide +kernel, Or.inl rfl, "UTF8String", tr 679 (by decide +kernel)⟩⟩
theorem xe86 (vS : Value) : x_all vS "NotationReaderModel" 109 (7, 0, 0, .float 54) := ⟨trivial, trivial, trivial, trivial, trivial, trivial, trivial, ⟨_, rfl, by decide +kernel, Or.inl rfl, "PrintableString", tr 680 (by decide +kernel)⟩⟩
theorem xe87 (vS : Value) : x_all vS "NotationReaderModel" 111 (7, 0, 0, .float 55) := ⟨trivial, trivial, trivial, trivial, trivial, trivial, trivial, ⟨_, rfl, by decide +kernel, Or.inl rfl, "IA5String", tr 681 (by decide +kernel)⟩⟩
theorem xe88 (vS : Value) : x_all vS "NotationReaderModel" 113 (7, 0, 0, .float 56) := ⟨trivial, trivial, trivial, trivial, trivial, trivial, trivial, ⟨_, rfl, by decide +kernel, Or.inl rfl, "NumericString", tr 682 (by decide +kernel)⟩⟩
theorem xe89 (vS : Value) : x_all vS "NotationReaderModel" 115 (7, 0, 0, .float 57) := ⟨trivial, trivial, trivial, trivial, trivial, trivial, trivial, ⟨_, rfl, by decide +kernel, Or.inl rfl, "VisibleString", tr 683 (by decide +kernel)⟩⟩
theorem xe90 (vS : Value) : x_all vS "NotationReaderModel" 117 (0, 3, 5, .int 1) := ⟨⟨_, "NotationReaderModel", rfl, by decide, tm 691 (by decide +kernel), Or.inl rfl, fun _ => ⟨rfl, rfl⟩⟩, trivial, trivial, trivial, trivial, trivial, trivial, trivial⟩
theorem xe91 (vS : Value) : x_all vS "NotationReaderModel" 120 (6, 4, 0, .null) := ⟨trivial, trivial, trivial, ⟨_, rfl, tm 684 (by decide +kernel)⟩, trivial, trivial, trivial, trivial⟩
theorem xe92 (vS : Value) : x_all vS "NotationReaderModel" 122 (0, 3, 15, .null) := ⟨⟨_, "NotationReaderModel", rfl, by decide, tm 700 (by decide +kernel), Or.inl rfl, fun h => by cases h⟩, trivial, trivial, trivial, trivial, trivial, trivial, trivial⟩
theorem xe93 (vS : Value) : x_all vS "NotationReaderModel" 126 (0, 3, 16, .null) := ⟨⟨_, "NotationReaderModel", rfl, by decide, tm 701 (by decide +kernel), Or.inl rfl, fun h => by cases h⟩, trivial, trivial, trivial, trivial, trivial, trivial, trivial⟩
theorem xe94 (vS : Value) : x_all vS "NotationReaderModel" 130 (0, 3, 17, .null) := ⟨⟨_, "NotationReaderModel", rfl, by decide, tm 702 (by decide +kernel), Or.inl rfl, fun h => by cases h⟩, trivial, trivial, trivial, trivial, trivial, trivial, trivial⟩
theorem xe95 (vS : Value) : x_all vS "NotationReaderModel" 133 (0, 3, 18, .null) := ⟨⟨_, "NotationReaderModel", rfl, by decide, tm 703 (by decide +kernel), Or.inl rfl, fun h => by cases h⟩, trivial, trivial, trivial, trivial, trivial, trivial, trivial⟩
theorem xe96 (vS : Value) : x_all vS "NotationReaderModel" 136 (0, 3, 19, .null) := ⟨⟨_, "NotationReaderModel", rfl, by decide, tm 704 (by decide +kernel), Or.inl rfl, fun h => by cases h⟩, trivial, trivial, trivial, trivial, trivial, trivial, trivial⟩
theorem xe97 (vS : Value) : x_all vS "NotationReaderModel" 139 (0, 3, 20, .null) := ⟨⟨_, "NotationReaderModel", rfl, by decide, tm 705 (by decide +kernel), Or.inl rfl, fun h => by cases h⟩, trivial, trivial, trivial, trivial, trivial, trivial, trivial⟩
theorem xe98 (vS : Value) : x_all vS "NotationReaderModel" 142 (0, 3, 0, .null) := ⟨⟨_, "NotationReaderModel", rfl, by decide, tm 686 (by decide +kernel), Or.inl rfl, fun h => by cases h⟩, trivial, trivial, trivial, trivial, trivial, trivial, trivial⟩
theorem xe99 (vS : Value) : x_all vS "NotationReaderModel" 145 (0, 3, 2, .null) := ⟨⟨_, "NotationReaderModel", rfl, by decide, tm 688 (by decide +kernel), Or.inl rfl, fun h => by cases h⟩, trivial, trivial, trivial, trivial, trivial, trivial, trivial⟩
theorem xe100 (vS : Value) : x_all vS "NotationReaderModel" 148 (0, 3, 11, .null) := ⟨⟨_, "NotationReaderModel", rfl, by decide, tm 697 (by decide +kernel), Or.inl rfl, fun h => by cases h⟩, trivial, trivial, trivial, trivial, trivial, trivial, trivial⟩
theorem xe101 (vS : Value) : x_all vS "NotationReaderModel" 151 (1, 13, 2, .null) := ⟨trivial, ⟨_, rfl, Or.inr (Or.inr (Or.inl ⟨rfl, tm 779 (by decide +kernel), ts (by decide +kernel)⟩))⟩, trivial, trivial, trivial, trivial, trivial, trivial⟩
theorem xe102 (vS : Value) : x_all vS "NotationReaderModel" 155 (1, 14, 2, .null) := ⟨trivial, ⟨_, rfl, Or.inr (Or.inr (Or.inl ⟨rfl, tm 783 (by decide +kernel), ts (by decide +kernel)⟩))⟩, trivial, trivial, trivial, trivial, trivial, trivial⟩
theorem xe103 (vS : Value) : x_all vS "NotationReaderModel" 159 (2, 12, 0, .null) := ⟨⟨_, rfl, tm 803 (by decide +kernel), tm 804 (by decide +kernel), tm 24 (by decide +kernel)⟩, trivial, trivial, trivial, trivial, trivial, trivial, trivial⟩
theorem xe104 (vS : Value) : x_all vS "NotationReaderModel" 161 (1, 82, 0, .null) := ⟨trivial, ⟨_, rfl, Or.inl ⟨rfl, tm 805 (by decide +kernel)⟩⟩, trivial, trivial, trivial, trivial, trivial, trivial⟩
theorem xe105 (vS : Value) : x_all vS "NotationReaderModel" 162 (1, 83, 2, .null) := ⟨trivial, ⟨_, rfl, Or.inr (Or.inr (Or.inl ⟨rfl, tm 833 (by decide +kernel), tm 835 (by decide +kernel)⟩))⟩, trivial, trivial, trivial, trivial, trivial, trivial⟩
theorem xe106 (vS : Value) : x_all vS "NotationReaderModel" 166 (1, 84, 2, .null) := ⟨trivial, ⟨_, rfl, Or.inr (Or.inr (Or.inl ⟨rfl, tm 893 (by decide +kernel), tm 895 (by decide +kernel)⟩))⟩, trivial, trivial, trivial, trivial, trivial, trivial⟩
theorem xe107 (vS : Value) : x_all vS "NotationReaderModel" 170 (1, 17, 2, .null) := ⟨trivial, ⟨_, rfl, Or.inr (Or.inr (Or.inl ⟨rfl, tm 775 (by decide +kernel), ts (by decide +kernel)⟩))⟩, trivial, trivial, trivial, trivial, trivial, trivial⟩
theorem xe108 (vS : Value) : x_all vS "NotationReaderModel" 173 (0, 3, 7, .null) := ⟨⟨_, "NotationReaderModel", rfl, by decide, tm 693 (by decide +kernel), Or.inl rfl, fun h => by cases h⟩, trivial, trivial, trivial, trivial, trivial, trivial, trivial⟩
theorem xe109 (vS : Value) : x_all vS "NotationReaderModel" 176 (0, 3, 6, .null) := ⟨⟨_, "NotationReaderModel", rfl, by decide, tm 692 (by decide +kernel), Or.inl rfl, fun h => by cases h⟩, trivial, trivial, trivial, trivial, trivial, trivial, trivial⟩
theorem xe110 (vS : Value) : x_all vS "NotationReaderModel" 179 (1, 16, 2, .null) := ⟨trivial, ⟨_, rfl, Or.inr (Or.inr (Or.inl ⟨rfl, tm 787 (by decide +kernel), ts (by decide +kernel)⟩))⟩, trivial, trivial, trivial, trivial, trivial, trivial⟩
theorem xe111 (vS : Value) : x_all vS "NotationReaderModel" 182 (1, 20, 2, .null) := ⟨trivial, ⟨_, rfl, Or.inr (Or.inr (Or.inl ⟨rfl, tm 791 (by decide +kernel), ts (by decide +kernel)⟩))⟩, trivial, trivial, trivial, trivial, trivial, trivial⟩
theorem xe112 (vS : Value) : x_all vS "NotationReaderModel" 185 (1, 15, 2, .null) := ⟨trivial, ⟨_, rfl, Or.inr (Or.inr (Or.inl ⟨rfl, tm 795 (by decide +kernel), ts (by decide +kernel)⟩))⟩, trivial, trivial, trivial, trivial, trivial, trivial⟩
theorem xe113 (vS : Value) : x_all vS "NotationReaderModel" 188 (1, 21, 2, .null) := ⟨trivial, ⟨_, rfl, Or.inr (Or.inr (Or.inl ⟨rfl, tm 1028 (by decide +kernel), ts (by decide +kernel)⟩))⟩, trivial, trivial, trivial, trivial, trivial, trivial⟩
theorem xe114 (vS : Value) : x_all vS "NotationReaderModel" 191 (1, 22, 2, .null) := ⟨trivial, ⟨_, rfl, Or.inr (Or.inr (Or.inl ⟨rfl, tm 1034 (by decide +kernel), ts (by decide +kernel)⟩))⟩, trivial, trivial, trivial, trivial, trivial, trivial⟩
theorem xe115 (vS : Value) : x_all vS "NotationReaderModel" 194 (1, 23, 2, .null) := ⟨trivial, ⟨_, rfl, Or.inr (Or.inr (Or.inl ⟨rfl, tm 1038 (by decide +kernel), ts (by decide +kernel)⟩))⟩, trivial, trivial, trivial, trivial, trivial, trivial⟩
theorem xe116 (vS : Value) : x_all vS "NotationReaderModel" 197 (1, 71, 2, .null) := ⟨trivial, ⟨_, rfl, Or.inr (Or.inr (Or.inl ⟨rfl, tm 1042 (by decide +kernel), tm 305 (by decide +kernel)⟩))⟩, trivial, trivial, trivial, trivial, trivial, trivial⟩
theorem xe117 (vS : Value) : x_all vS "NotationReaderModel" 201 (1, 74, 2, .null) := ⟨trivial, ⟨_, rfl, Or.inr (Or.inr (Or.inl ⟨rfl, tm 1043 (by decide +kernel), tm 319 (by decide +kernel)⟩))⟩, trivial, trivial, trivial, trivial, trivial, trivial⟩
theorem xe118 (vS : Value) : x_all vS "NotationReaderModel" 205 (0, 3, 10, .null) := ⟨⟨_, "NotationReaderModel", rfl, by decide, tm 696 (by decide +kernel), Or.inl rfl, fun h => by cases h⟩, trivial, trivial, trivial, trivial, trivial, trivial, trivial⟩
theorem xe119 (vS : Value) : x_all vS "NotationReaderModel" 209 (0, 3, 8, .null) := ⟨⟨_, "NotationReaderModel", rfl, by decide, tm 694 (by decide +kernel), Or.inl rfl, fun h => by cases h⟩, trivial, trivial, trivial, trivial, trivial, trivial, trivial⟩
theorem xe120 (vS : Value) : x_all vS "NotationReaderModel" 212 (1, 18, 2, .null) := ⟨trivial, ⟨_, rfl, Or.inr (Or.inr (Or.inl ⟨rfl, tm 799 (by decide +kernel), ts (by decide +kernel)⟩))⟩, trivial, trivial, trivial, trivial, trivial, trivial⟩
theorem xe121 (vS : Value) : x_all vS "NotationReaderModel" 216 (1, 76, 2, .null) := ⟨trivial, ⟨_, rfl, Or.inr (Or.inr (Or.inl ⟨rfl, tm 1020 (by decide +kernel), tm 1022 (by decide +kernel)⟩))⟩, trivial, trivial, trivial, trivial, trivial, trivial⟩
theorem xe122 (vS : Value) : x_all vS "NotationReaderModel" 220 (0, 3, 9, .null) := ⟨⟨_, "NotationReaderModel", rfl, by decide, tm 695 (by decide +kernel), Or.inl rfl, fun h => by cases h⟩, trivial, trivial, trivial, trivial, trivial, trivial, trivial⟩
theorem xe123 (vS : Value) : x_all vS "NotationReaderModel" 224 (3, 0, 0, .long 9223372036854775807) := ⟨(tm 1032 (by decide +kernel)), trivial, trivial, trivial, trivial, trivial, trivial, trivial⟩
theorem xe124 (vS : Value) : x_all vS "NotationReaderModel" 226 (3, 0, 0, .long 10) := ⟨(tm 1033 (by decide +kernel)), trivial, trivial, trivial, trivial, trivial, trivial, trivial⟩
theorem xe125 (vS : Value) : x_all vS "NotationReaderModel" 228 (9, 6, 0, .null) := ⟨trivial, trivial, trivial, trivial, ⟨_, rfl, tm 770 (by decide +kernel), tm 228 (by decide +kernel), tm 12 (by decide +kernel)⟩, trivial, trivial, trivial⟩
theorem xe126 (vS : Value) : x_all vS "NotationReaderModel" 230 (14, 6, 0, .null) := ⟨trivial, trivial, trivial, trivial, ⟨_, xNames, rfl, rfl, by decide +kernel, by decide, by decide +kernel, tmz (by decide +kernel)⟩, trivial, trivial, trivial⟩
theorem xe127 (vS : Value) : x_all vS "NotationReaderModel" 231 (1, 24, 2, .null) := ⟨trivial, ⟨_, rfl, Or.inr (Or.inr (Or.inl ⟨rfl, tm 1048 (by decide +kernel), ts (by decide +kernel)⟩))⟩, trivial, trivial, trivial, trivial, trivial, trivial⟩
theorem xe128 (vS : Value) : x_all vS "NotationReaderModel" 235 (1, 25, 2, .null) := ⟨trivial, ⟨_, rfl, Or.inr (Or.inr (Or.inl ⟨rfl, tm 1097 (by decide +kernel), ts (by decide +kernel)⟩))⟩, trivial, trivial, trivial, trivial, trivial, trivial⟩
theorem xe129 (vS : Value) : x_all vS "NotationReaderModel" 239 (1, 19, 2, .null) := ⟨trivial, ⟨_, rfl, Or.inr (Or.inr (Or.inl ⟨rfl, tm 771 (by decide +kernel), ts (by decide +kernel)⟩))⟩, trivial, trivial, trivial, trivial, trivial, trivial⟩
theorem xe130 (vS : Value) : x_all vS "NotationReaderModel" 120 (2, 11, 0, .null) := ⟨⟨_, rfl, tm 684 (by decide +kernel), tm 1052 (by decide +kernel), tm 26 (by decide +kernel)⟩, trivial, trivial, trivial, trivial, trivial, trivial, trivial⟩
theorem xe131 (vS : Value) : x_all vS "NotationReaderModel" 242 (1, 47, 0, .null) := ⟨trivial, ⟨_, rfl, Or.inl ⟨rfl, tm 1053 (by decide +kernel)⟩⟩, trivial, trivial, trivial, trivial, trivial, trivial⟩
theorem xe132 (vS : Value) : x_all vS "NotationReaderModel" 245 (1, 28, 2, .null) := ⟨trivial, ⟨_, rfl, Or.inr (Or.inr (Or.inl ⟨rfl, tm 1093 (by decide +kernel), ts (by decide +kernel)⟩))⟩, trivial, trivial, trivial, trivial, trivial, trivial⟩
theorem xe133 (vS : Value) : x_all vS "NotationReaderModel" 249 (8, 11, 3, .null) := ⟨⟨_, "NotationReaderModel$Value", "NotationReaderModel", rfl, by decide, tm 1064 (by decide +kernel), Or.inl rfl⟩, trivial, trivial, trivial, trivial, trivial, trivial, trivial⟩
theorem xe134 (vS : Value) : x_all vS "NotationReaderModel" 250 (8, 11, 4, .null) := ⟨⟨_, "NotationReaderModel$Value", "NotationReaderModel", rfl, by decide, tm 1065 (by decide +kernel), Or.inl rfl⟩, trivial, trivial, trivial, trivial, trivial, trivial, trivial⟩
theorem xe135 (vS : Value) : x_all vS "NotationReaderModel" 252 (1, 27, 2, .null) := ⟨trivial, ⟨_, rfl, Or.inr (Or.inr (Or.inl ⟨rfl, tm 1111 (by decide +kernel), ts (by decide +kernel)⟩))⟩, trivial, trivial, trivial, trivial, trivial, trivial⟩
theorem xe136 (vS : Value) : x_all vS "NotationReaderModel" 256 (1, 31, 2, .null) := ⟨trivial, ⟨_, rfl, Or.inr (Or.inr (Or.inl ⟨rfl, tm 1115 (by decide +kernel), ts (by decide +kernel)⟩))⟩, trivial, trivial, trivial, trivial, trivial, trivial⟩
theorem xe137 (vS : Value) : x_all vS "NotationReaderModel" 259 (1, 30, 2, .null) := ⟨trivial, ⟨_, rfl, Or.inr (Or.inr (Or.inl ⟨rfl, tm 1044 (by decide +kernel), ts (by decide +kernel)⟩))⟩, trivial, trivial, trivial, trivial, trivial, trivial⟩
theorem xe138 (vS : Value) : x_all vS "NotationReaderModel" 263 (1, 48, 2, .null) := ⟨trivial, ⟨_, rfl, Or.inr (Or.inr (Or.inl ⟨rfl, tm 1119 (by decide +kernel), tm 1121 (by decide +kernel)⟩))⟩, trivial, trivial, trivial, trivial, trivial, trivial⟩
theorem xe139 (vS : Value) : x_all vS "NotationReaderModel" 267 (0, 3, 12, .null) := ⟨⟨_, "NotationReaderModel", rfl, by decide, tm 698 (by decide +kernel), Or.inl rfl, fun h => by cases h⟩, trivial, trivial, trivial, trivial, trivial, trivial, trivial⟩
theorem xe140 (vS : Value) : x_all vS "NotationReaderModel" 270 (1, 32, 2, .null) := ⟨trivial, ⟨_, rfl, Or.inr (Or.inr (Or.inl ⟨rfl, tm 1123 (by decide +kernel), ts (by decide +kernel)⟩))⟩, trivial, trivial, trivial, trivial, trivial, trivial⟩
theorem xe141 (vS : Value) : x_all vS "NotationReaderModel" 274 (8, 11, 2, .null) := ⟨⟨_, "NotationReaderModel$Value", "NotationReaderModel", rfl, by decide, tm 1063 (by decide +kernel), Or.inl rfl⟩, trivial, trivial, trivial, trivial, trivial, trivial, trivial⟩
theorem xe142 (vS : Value) : x_all vS "NotationReaderModel" 277 (1, 26, 2, .null) := ⟨trivial, ⟨_, rfl, Or.inr (Or.inr (Or.inl ⟨rfl, tm 1131 (by decide +kernel), ts (by decide +kernel)⟩))⟩, trivial, trivial, trivial, trivial, trivial, trivial⟩
theorem xe143 (vS : Value) : x_all vS "NotationReaderModel" 281 (1, 29, 2, .null) := ⟨trivial, ⟨_, rfl, Or.inr (Or.inr (Or.inl ⟨rfl, tm 1127 (by decide +kernel), ts (by decide +kernel)⟩))⟩, trivial, trivial, trivial, trivial, trivial, trivial⟩
theorem xe144 (vS : Value) : x_all vS "NotationReaderModel" 285 (0, 3, 14, .null) := ⟨⟨_, "NotationReaderModel", rfl, by decide, tm 699 (by decide +kernel), Or.inl rfl, fun h => by cases h⟩, trivial, trivial, trivial, trivial, trivial, trivial, trivial⟩
theorem xe145 (vS : Value) : x_all vS "NotationReaderModel" 288 (8, 11, 0, .null) := ⟨⟨_, "NotationReaderModel$Value", "NotationReaderModel", rfl, by decide, tm 1060 (by decide +kernel), Or.inl rfl⟩, trivial, trivial, trivial, trivial, trivial, trivial, trivial⟩
theorem xe146 (vS : Value) : x_all vS "NotationReaderModel" 291 (8, 11, 1, .null) := ⟨⟨_, "NotationReaderModel$Value", "NotationReaderModel", rfl, by decide, tm 1062 (by decide +kernel), Or.inl rfl⟩, trivial, trivial, trivial, trivial, trivial, trivial, trivial⟩
theorem xe147 (vS : Value) : x_all vS "NotationReaderModel" 292 (1, 33, 2, .null) := ⟨trivial, ⟨_, rfl, Or.inr (Or.inr (Or.inl ⟨rfl, tm 1139 (by decide +kernel), ts (by decide +kernel)⟩))⟩, trivial, trivial, trivial, trivial, trivial, trivial⟩
theorem xe148 (vS : Value) : x_all vS "NotationReaderModel" 296 (8, 11, 6, .null) := ⟨⟨_, "NotationReaderModel$Value", "NotationReaderModel", rfl, by decide, tm 1069 (by decide +kernel), Or.inl rfl⟩, trivial, trivial, trivial, trivial, trivial, trivial, trivial⟩
theorem xe149 (vS : Value) : x_all vS "NotationReaderModel" 297 (8, 11, 5, .null) := ⟨⟨_, "NotationReaderModel$Value", "NotationReaderModel", rfl, by decide, tm 1067 (by decide +kernel), Or.inl rfl⟩, trivial, trivial, trivial, trivial, trivial, trivial, trivial⟩
theorem xe150 (vS : Value) : x_all vS "NotationReaderModel" 300 (1, 34, 2, .null) := ⟨trivial, ⟨_, rfl, Or.inr (Or.inr (Or.inl ⟨rfl, tm 1135 (by decide +kernel), ts (by decide +kernel)⟩))⟩, trivial, trivial, trivial, trivial, trivial, trivial⟩
theorem xe151 (vS : Value) : x_all vS "NotationReaderModel" 304 (8, 11, 8, .null) := ⟨⟨_, "NotationReaderModel$Value", "NotationReaderModel", rfl, by decide, tm 1073 (by decide +kernel), Or.inl rfl⟩, trivial, trivial, trivial, trivial, trivial, trivial, trivial⟩
theorem xe152 (vS : Value) : x_all vS "NotationReaderModel" 307 (8, 11, 7, .null) := ⟨⟨_, "NotationReaderModel$Value", "NotationReaderModel", rfl, by decide, tm 1071 (by decide +kernel), Or.inl rfl⟩, trivial, trivial, trivial, trivial, trivial, trivial, trivial⟩
theorem xe153 (vS : Value) : x_all vS "NotationReaderModel" 308 (1, 12, 2, .null) := ⟨trivial, ⟨_, rfl, Or.inr (Or.inr (Or.inl ⟨rfl, tm 758 (by decide +kernel), ts (by decide +kernel)⟩))⟩, trivial, trivial, trivial, trivial, trivial, trivial⟩
theorem xe154 (vS : Value) : x_all vS "NotationReaderModel" 228 (11, 6, 0, .null) := ⟨trivial, trivial, ⟨by decide, _, rfl, tm 770 (by decide +kernel)⟩, trivial, trivial, trivial, trivial, trivial⟩
theorem xe155 (vS : Value) : x_all vS "NotationReaderModel" 311 (1, 39, 2, .null) := ⟨trivial, ⟨_, rfl, Or.inr (Or.inr (Or.inl ⟨rfl, tm 1151 (by decide +kernel), ts (by decide +kernel)⟩))⟩, trivial, trivial, trivial, trivial, trivial, trivial⟩
theorem xe156 (vS : Value) : x_all vS "NotationReaderModel" 314 (1, 40, 2, .null) := ⟨trivial, ⟨_, rfl, Or.inr (Or.inr (Or.inl ⟨rfl, tm 1155 (by decide +kernel), ts (by decide +kernel)⟩))⟩, trivial, trivial, trivial, trivial, trivial, trivial⟩
theorem xe157 (vS : Value) : x_all vS "NotationReaderModel$Value" 1 (5, 0, 0, .null) := ⟨trivial, ⟨tm 1056 (by decide +kernel), tm 35 (by decide +kernel), tm 36 (by decide +kernel)⟩, trivial, trivial, trivial, trivial, trivial, trivial⟩
theorem xe158 (vS : Value) : x_all vS "NotationReaderModel$Value" 7 (6, 4, 0, .null) := ⟨trivial, trivial, trivial, ⟨_, rfl, tm 1057 (by decide +kernel)⟩, trivial, trivial, trivial, trivial⟩
theorem xe159 (vS : Value) : x_all vS "NotationReaderModel$Value" 9 (0, 11, 5, .null) := ⟨⟨_, "NotationReaderModel$Value", rfl, by decide, tm 1066 (by decide +kernel), Or.inl rfl, fun h => by cases h⟩, trivial, trivial, trivial, trivial, trivial, trivial, trivial⟩
theorem xe160 (vS : Value) : x_all vS "NotationReaderModel$Value" 13 (6, 3, 0, .null) := ⟨trivial, trivial, trivial, ⟨_, rfl, tm 1058 (by decide +kernel)⟩, trivial, trivial, trivial, trivial⟩
theorem xe161 (vS : Value) : x_all vS "NotationReaderModel$Value" 15 (0, 11, 6, .null) := ⟨⟨_, "NotationReaderModel$Value", rfl, by decide, tm 1068 (by decide +kernel), Or.inl rfl, fun h => by cases h⟩, trivial, trivial, trivial, trivial, trivial, trivial, trivial⟩
theorem xe162 (vS : Value) : x_all vS "NotationReaderModel$Value" 19 (0, 11, 7, .null) := ⟨⟨_, "NotationReaderModel$Value", rfl, by decide, tm 1070 (by decide +kernel), Or.inl rfl, fun h => by cases h⟩, trivial, trivial, trivial, trivial, trivial, trivial, trivial⟩
theorem xe163 (vS : Value) : x_all vS "NotationReaderModel$Value" 23 (0, 11, 0, .int 1) := ⟨⟨_, "NotationReaderModel$Value", rfl, by decide, tm 1059 (by decide +kernel), Or.inl rfl, fun _ => ⟨rfl, rfl⟩⟩, trivial, trivial, trivial, trivial, trivial, trivial, trivial⟩
theorem xe164 (vS : Value) : x_all vS "NotationReaderModel$Value" 27 (0, 11, 1, .int 1) := ⟨⟨_, "NotationReaderModel$Value", rfl, by decide, tm 1061 (by decide +kernel), Or.inl rfl, fun _ => ⟨rfl, rfl⟩⟩, trivial, trivial, trivial, trivial, trivial, trivial, trivial⟩
theorem xe165 (vS : Value) : x_all vS "NotationReaderModel$Value" 30 (0, 11, 8, .null) := ⟨⟨_, "NotationReaderModel$Value", rfl, by decide, tm 1072 (by decide +kernel), Or.inl rfl, fun h => by cases h⟩, trivial, trivial, trivial, trivial, trivial, trivial, trivial⟩
theorem xe166 (vS : Value) : x_all vS "java/util/ArrayList" 1 (1, 58, 0, .null) := ⟨trivial, ⟨_, rfl, Or.inl ⟨rfl, tm 104 (by decide +kernel)⟩⟩, trivial, trivial, trivial, trivial, trivial, trivial⟩
theorem xe167 (vS : Value) : x_all vS "java/util/ArrayList" 9 (0, 4, 0, .null) := ⟨⟨_, "java/util/ArrayList", rfl, by decide, tm 113 (by decide +kernel), Or.inl rfl, fun h => by cases h⟩, trivial, trivial, trivial, trivial, trivial, trivial, trivial⟩
theorem xe168 (vS : Value) : x_all vS "java/util/ArrayList" 39 (4, 0, 0, .float 59) := ⟨trivial, trivial, trivial, trivial, trivial, trivial, trivial, Or.inl ⟨rfl, tm 111 (by decide +kernel)⟩⟩
theorem xe169 (vS : Value) : x_all vS "java/util/ArrayList" 48 (0, 4, 1, .null) := ⟨⟨_, "java/util/ArrayList", rfl, by decide, tm 114 (by decide +kernel), Or.inl rfl, fun h => by cases h⟩, trivial, trivial, trivial, trivial, trivial, trivial, trivial⟩
theorem xe170 (vS : Value) : x_all vS "java/util/ArrayList" 63 (0, 4, 2, .null) := ⟨⟨_, "java/util/ArrayList", rfl, by decide, tm 116 (by decide +kernel), Or.inr (tm 117 (by decide +kernel)), fun h => by cases h⟩, trivial, trivial, trivial, trivial, trivial, trivial, trivial⟩
theorem xe171 (vS : Value) : x_all vS "java/util/ArrayList" 131 (1, 51, 2, .null) := ⟨trivial, ⟨_, rfl, Or.inr (Or.inr (Or.inl ⟨rfl, tm 447 (by decide +kernel), ts (by decide +kernel)⟩))⟩, trivial, trivial, trivial, trivial, trivial, trivial⟩
theorem xe172 (vS : Value) : x_all vS "java/util/ArrayList" 129 (1, 52, 2, .null) := ⟨trivial, ⟨_, rfl, Or.inr (Or.inr (Or.inl ⟨rfl, tm 451 (by decide +kernel), ts (by decide +kernel)⟩))⟩, trivial, trivial, trivial, trivial, trivial, trivial⟩
theorem xe173 (vS : Value) : x_all vS "java/util/ArrayList" 69 (1, 53, 2, .null) := ⟨trivial, ⟨_, rfl, Or.inr (Or.inr (Or.inl ⟨rfl, tm 455 (by decide +kernel), ts (by decide +kernel)⟩))⟩, trivial, trivial, trivial, trivial, trivial, trivial⟩
theorem xe174 (vS : Value) : x_all vS "java/util/ArrayList" 7 (6, 5, 0, .null) := ⟨trivial, trivial, trivial, ⟨_, rfl, tm 502 (by decide +kernel)⟩, trivial, trivial, trivial, trivial⟩
theorem xe175 (vS : Value) : x_all vS "java/util/ArrayList" 66 (1, 61, 0, .null) := ⟨trivial, ⟨_, rfl, Or.inl ⟨rfl, tm 469 (by decide +kernel)⟩⟩, trivial, trivial, trivial, trivial, trivial, trivial⟩
theorem xe176 (vS : Value) : x_all vS "java/util/ArrayList" 73 (1, 60, 0, .null) := ⟨trivial, ⟨_, rfl, Or.inl ⟨rfl, tm 459 (by decide +kernel)⟩⟩, trivial, trivial, trivial, trivial, trivial, trivial⟩
theorem xe177 (vS : Value) : x_all vS "java/util/ArrayList" 79 (1, 68, 0, .null) := ⟨trivial, ⟨_, rfl, Or.inl ⟨rfl, tm 501 (by decide +kernel)⟩⟩, trivial, trivial, trivial, trivial, trivial, trivial⟩
theorem xe178 (vS : Value) : x_all vS "java/util/ArrayList" 118 (1, 69, 0, .null) := ⟨trivial, ⟨_, rfl, Or.inl ⟨rfl, tm 555 (by decide +kernel)⟩⟩, trivial, trivial, trivial, trivial, trivial, trivial⟩
theorem xe179 (vS : Value) : x_all vS "java/util/ArrayList" 123 (1, 56, 2, .null) := ⟨trivial, ⟨_, rfl, Or.inr (Or.inr (Or.inl ⟨rfl, tm 559 (by decide +kernel), tm 561 (by decide +kernel)⟩))⟩, trivial, trivial, trivial, trivial, trivial, trivial⟩
theorem xe180 (vS : Value) : x_all vS "java/util/AbstractList" 1 (1, 59, 0, .null) := ⟨trivial, ⟨_, rfl, Or.inl ⟨rfl, tm 107 (by decide +kernel)⟩⟩, trivial, trivial, trivial, trivial, trivial, trivial⟩
theorem xe181 (vS : Value) : x_all vS "java/util/AbstractList" 7 (0, 4, 2, .null) := ⟨⟨_, "java/util/AbstractList", rfl, by decide, tm 115 (by decide +kernel), Or.inl rfl, fun h => by cases h⟩, trivial, trivial, trivial, trivial, trivial, trivial, trivial⟩
theorem xe182 (vS : Value) : x_all vS "java/util/AbstractCollection" 1 (5, 0, 0, .null) := ⟨trivial, ⟨tm 110 (by decide +kernel), tm 35 (by decide +kernel), tm 36 (by decide +kernel)⟩, trivial, trivial, trivial, trivial, trivial, trivial⟩
theorem xe183 (vS : Value) : x_all vS "jdk/internal/util/ArraysSupport" 194 (1, 68, 0, .null) := ⟨trivial, ⟨_, rfl, Or.inl ⟨rfl, tm 462 (by decide +kernel)⟩⟩, trivial, trivial, trivial, trivial, trivial, trivial⟩
theorem xe184 (vS : Value) : x_all vS "jdk/internal/util/ArraysSupport" 200 (3, 0, 0, .int 2147483639) := ⟨(tm 465 (by decide +kernel)), trivial, trivial, trivial, trivial, trivial, trivial, trivial⟩
theorem xe185 (vS : Value) : x_all vS "java/util/Arrays" 86 (16, 5, 0, .float 60) := ⟨trivial, trivial, trivial, trivial, trivial, trivial, ⟨"java/lang/Object", rfl, tm 472 (by decide +kernel), tm 1192 (by decide +kernel), tm 473 (by decide +kernel), tm 488 (by decide +kernel)⟩, ⟨rfl, rfl, trivial⟩⟩
theorem xe186 (vS : Value) : x_all vS "java/util/Arrays" 300 (1, 62, 0, .null) := ⟨trivial, ⟨_, rfl, Or.inl ⟨rfl, tm 489 (by decide +kernel)⟩⟩, trivial, trivial, trivial, trivial, trivial, trivial⟩
theorem xe187 (vS : Value) : x_all vS "java/util/Arrays" 2 (6, 5, 0, .null) := ⟨trivial, trivial, trivial, ⟨_, rfl, tm 494 (by decide +kernel)⟩, trivial, trivial, trivial, trivial⟩
theorem xe188 (vS : Value) : x_all vS "java/util/Arrays" 110 (15, 0, 0, .float 60) := ⟨trivial, trivial, trivial, trivial, trivial, trivial, trivial, ⟨rfl, tm 492 (by decide +kernel)⟩⟩
theorem xe189 (vS : Value) : x_all vS "java/util/Arrays" 150 (18, 0, 0, .null) := ⟨trivial, trivial, trivial, trivial, trivial, trivial, ⟨tm 498 (by decide +kernel), tm 500 (by decide +kernel), tm 499 (by decide +kernel), tm 22 (by decide +kernel)⟩, trivial⟩
theorem xe190 (vS : Value) : x_all vS "java/util/Arrays" 304 (1, 67, 0, .null) := ⟨trivial, ⟨_, rfl, Or.inl ⟨rfl, tm 495 (by decide +kernel)⟩⟩, trivial, trivial, trivial, trivial, trivial, trivial⟩
theorem xe191 (vS : Value) : x_all vS "java/util/Arrays" 310 (19, 0, 0, .null) := ⟨trivial, trivial, trivial, trivial, trivial, trivial, ⟨tm 853 (by decide +kernel), tm 854 (by decide +kernel), tm 855 (by decide +kernel), tm 856 (by decide +kernel), tm 857 (by decide +kernel), tm 858 (by decide +kernel)⟩, trivial⟩
theorem xe192 (vS : Value) : x_all vS "java/util/Arrays" 311 (24, 0, 0, .null) := ⟨trivial, trivial, trivial, trivial, trivial, trivial, tm 859 (by decide +kernel), trivial⟩
theorem xe193 (vS : Value) : x_all vS "java/util/Arrays" 339 (1, 65, 0, .null) := ⟨trivial, ⟨_, rfl, Or.inl ⟨rfl, tm 923 (by decide +kernel)⟩⟩, trivial, trivial, trivial, trivial, trivial, trivial⟩
theorem xe194 (vS : Value) : x_all vS "java/util/Arrays" 343 (1, 66, 0, .null) := ⟨trivial, ⟨_, rfl, Or.inl ⟨rfl, tm 926 (by decide +kernel)⟩⟩, trivial, trivial, trivial, trivial, trivial, trivial⟩
theorem xe195 (vS : Value) : x_all vS "java/util/Arrays" 43 (9, 6, 0, .null) := ⟨trivial, trivial, trivial, trivial, ⟨_, rfl, tm 929 (by decide +kernel), tm 228 (by decide +kernel), tm 12 (by decide +kernel)⟩, trivial, trivial, trivial⟩
theorem xe196 (vS : Value) : x_all vS "java/util/Arrays" 45 (2, 12, 0, .null) := ⟨⟨_, rfl, tm 930 (by decide +kernel), tm 804 (by decide +kernel), tm 24 (by decide +kernel)⟩, trivial, trivial, trivial, trivial, trivial, trivial, trivial⟩
theorem xe197 (vS : Value) : x_all vS "java/util/Arrays" 47 (1, 82, 0, .null) := ⟨trivial, ⟨_, rfl, Or.inl ⟨rfl, tm 931 (by decide +kernel)⟩⟩, trivial, trivial, trivial, trivial, trivial, trivial⟩
theorem xe198 (vS : Value) : x_all vS "java/util/Arrays" 61 (1, 84, 2, .null) := ⟨trivial, ⟨_, rfl, Or.inr (Or.inr (Or.inl ⟨rfl, tm 997 (by decide +kernel), tm 895 (by decide +kernel)⟩))⟩, trivial, trivial, trivial, trivial, trivial, trivial⟩
theorem xe199 (vS : Value) : x_all vS "java/util/Arrays" 65 (10, 6, 0, .null) := ⟨trivial, trivial, trivial, trivial, ⟨_, "java/lang/RuntimeException", ["java/lang/Exception"], 7, Bundle.six, rfl, rfl, by decide +kernel, by decide, by decide +kernel, ⟨by decide +kernel, by decide +kernel, by decide +kernel, by decide +kernel⟩, tmz (by decide +kernel)⟩, trivial, trivial, trivial⟩
theorem xe200 (vS : Value) : x_all vS "java/util/Arrays" 337 (7, 0, 0, .float 58) := ⟨trivial, trivial, trivial, trivial, trivial, trivial, trivial, ⟨_, rfl, by decide +kernel, Or.inl rfl, " > ", tr 966 (by decide +kernel)⟩⟩
theorem xe201 (vS : Value) : x_all vS "java/util/Objects" 105 (1, 70, 0, .null) := ⟨trivial, ⟨_, rfl, Or.inl ⟨rfl, tm 558 (by decide +kernel)⟩⟩, trivial, trivial, trivial, trivial, trivial, trivial⟩
theorem xe202 (vS : Value) : x_all vS "java/lang/String" 9 (0, 9, 0, .int 1) := ⟨⟨_, "java/lang/String", rfl, by decide, tm 1009 (by decide +kernel), Or.inl rfl, fun _ => ⟨rfl, rfl⟩⟩, trivial, trivial, trivial, trivial, trivial, trivial, trivial⟩
theorem xe203 (vS : Value) : x_all vS "java/lang/String" 335 (1, 72, 2, .null) := ⟨trivial, ⟨_, rfl, Or.inr (Or.inr (Or.inl ⟨rfl, tm 307 (by decide +kernel), tm 309 (by decide +kernel)⟩))⟩, trivial, trivial, trivial, trivial, trivial, trivial⟩
theorem xe204 (vS : Value) : x_all vS "java/lang/String" 15 (0, 9, 1, .int 1) := ⟨⟨_, "java/lang/String", rfl, by decide, tm 1010 (by decide +kernel), Or.inl rfl, fun _ => ⟨rfl, rfl⟩⟩, trivial, trivial, trivial, trivial, trivial, trivial, trivial⟩
theorem xe205 (vS : Value) : x_all vS "java/lang/String" 38 (4, 0, 0, .int 1) := ⟨trivial, trivial, trivial, trivial, trivial, trivial, trivial, Or.inr (Or.inl ⟨rfl, tm 311 (by decide +kernel)⟩)⟩
theorem xe206 (vS : Value) : x_all vS "java/lang/String" 492 (1, 73, 2, .null) := ⟨trivial, ⟨_, rfl, Or.inr (Or.inr (Or.inl ⟨rfl, tm 321 (by decide +kernel), tm 323 (by decide +kernel)⟩))⟩, trivial, trivial, trivial, trivial, trivial, trivial⟩
theorem xe207 (vS : Value) : x_all vS "java/lang/String" 495 (1, 79, 0, .null) := ⟨trivial, ⟨_, rfl, Or.inl ⟨rfl, tm 325 (by decide +kernel)⟩⟩, trivial, trivial, trivial, trivial, trivial, trivial⟩
theorem xe208 (vS : Value) : x_all vS "java/lang/String" 1053 (4, 0, 0, vS) := ⟨trivial, trivial, trivial, trivial, trivial, trivial, trivial, Or.inr (Or.inr ⟨rfl, tm 331 (by decide +kernel)⟩)⟩
theorem xe209 (vS : Value) : x_all vS "java/lang/String" 1059 (1, 70, 0, .null) := ⟨trivial, ⟨_, rfl, Or.inl ⟨rfl, tm 333 (by decide +kernel)⟩⟩, trivial, trivial, trivial, trivial, trivial, trivial⟩
theorem xe210 (vS : Value) : x_all vS "java/lang/String" 10 (12, 9, 0, .null) := ⟨trivial, trivial, trivial, ⟨_, rfl, tm 1024 (by decide +kernel)⟩, trivial, trivial, trivial, trivial⟩
theorem xe211 (vS : Value) : x_all vS "java/lang/String" 541 (1, 80, 0, .null) := ⟨trivial, ⟨_, rfl, Or.inl ⟨rfl, tm 1025 (by decide +kernel)⟩⟩, trivial, trivial, trivial, trivial, trivial, trivial⟩
theorem xe212 (vS : Value) : x_all vS "java/lang/String" 489 (1, 78, 0, .null) := ⟨trivial, ⟨_, rfl, Or.inl ⟨rfl, tm 902 (by decide +kernel)⟩⟩, trivial, trivial, trivial, trivial, trivial, trivial⟩
theorem xe213 (vS : Value) : x_all vS "java/lang/String" 1 (5, 0, 0, .null) := ⟨trivial, ⟨tm 905 (by decide +kernel), tm 35 (by decide +kernel), tm 36 (by decide +kernel)⟩, trivial, trivial, trivial, trivial, trivial, trivial⟩
theorem xe214 (vS : Value) : x_all vS "java/lang/String" 54 (1, 64, 0, .null) := ⟨trivial, ⟨_, rfl, Or.inl ⟨rfl, tm 920 (by decide +kernel)⟩⟩, trivial, trivial, trivial, trivial, trivial, trivial⟩
theorem xe215 (vS : Value) : x_all vS "java/lang/String" 549 (20, 85, 12, .null) := ⟨trivial, trivial, trivial, trivial, trivial, ⟨_, _, ⟨"java/lang/AbstractStringBuilder", "length", "()I"⟩, ⟨"java/lang/AbstractStringBuilder", "isLatin1", "()Z"⟩, prog_9_method_6_code, 1, (Option.some Jvm.ClassFile.FieldType.int), rfl, rfl, tm 911 (by decide +kernel), tm 912 (by decide +kernel), tm 918 (by decide +kernel), by decide +kernel, ⟨by decide +kernel, by decide +kernel⟩, Or.inl (tm 914 (by decide +kernel)), rfl, tm 863 (by decide +kernel), tm 861 (by decide +kernel)⟩, trivial, trivial⟩
theorem xe216 (vS : Value) : x_all vS "java/lang/String" 552 (20, 91, 12, .null) := ⟨trivial, trivial, trivial, trivial, trivial, ⟨_, _, ⟨"java/lang/AbstractStringBuilder", "getValue", "()[B"⟩, ⟨"java/lang/AbstractStringBuilder", "isLatin1", "()Z"⟩, prog_9_method_64_code, 1, (Option.some (Jvm.ClassFile.FieldType.array Jvm.ClassFile.FieldType.byte)), rfl, rfl, tm 906 (by decide +kernel), tm 907 (by decide +kernel), tm 910 (by decide +kernel), by decide +kernel, ⟨by decide +kernel, by decide +kernel⟩, Or.inl (tm 909 (by decide +kernel)), rfl, tm 863 (by decide +kernel), tm 861 (by decide +kernel)⟩, trivial, trivial⟩
theorem xe217 (vS : Value) : x_all vS "java/lang/String" 1047 (20, 90, 12, .null) := ⟨trivial, trivial, trivial, trivial, trivial, ⟨_, _, ⟨"java/lang/AbstractStringBuilder", "isLatin1", "()Z"⟩, ⟨"java/lang/AbstractStringBuilder", "isLatin1", "()Z"⟩, prog_9_method_68_code, 1, (Option.some Jvm.ClassFile.FieldType.boolean), rfl, rfl, tm 919 (by decide +kernel), tm 861 (by decide +kernel), tm 864 (by decide +kernel), by decide +kernel, ⟨by decide +kernel, by decide +kernel⟩, Or.inl (tm 863 (by decide +kernel)), rfl, tm 863 (by decide +kernel), tm 861 (by decide +kernel)⟩, trivial, trivial⟩
theorem xe218 (vS : Value) : x_all vS "java/lang/String" 1048 (0, 12, 2, .null) := ⟨⟨_, "java/lang/AbstractStringBuilder", rfl, by decide, tm 822 (by decide +kernel), Or.inl rfl, fun h => by cases h⟩, trivial, trivial, trivial, trivial, trivial, trivial, trivial⟩
theorem xe219 (vS : Value) : x_all vS "java/lang/StringLatin1" 9 (1, 75, 0, .null) := ⟨trivial, ⟨_, rfl, Or.inl ⟨rfl, tm (w := .methodLink "java/lang/StringLatin1" 9 ⟨"java/lang/String", "checkIndex", "(II)V"⟩) 328 (by decide +kernel)⟩⟩, trivial, trivial, trivial, trivial, trivial, trivial⟩
theorem xe220 (vS : Value) : x_all vS "java/lang/StringBuilder" 1 (1, 86, 0, .null) := ⟨trivial, ⟨_, rfl, Or.inl ⟨rfl, tm 808 (by decide +kernel)⟩⟩, trivial, trivial, trivial, trivial, trivial, trivial⟩
theorem xe221 (vS : Value) : x_all vS "java/lang/StringBuilder" 50 (21, 87, 0, .null) := ⟨trivial, trivial, trivial, trivial, trivial, ⟨_, rfl, tm 837 (by decide +kernel), tm 1181 (by decide +kernel), tm 832 (by decide +kernel)⟩, trivial, trivial⟩
theorem xe222 (vS : Value) : x_all vS "java/lang/StringBuilder" 18 (2, 9, 0, .null) := ⟨⟨_, rfl, tm 897 (by decide +kernel), tm 898 (by decide +kernel), tm 13 (by decide +kernel)⟩, trivial, trivial, trivial, trivial, trivial, trivial, trivial⟩
theorem xe223 (vS : Value) : x_all vS "java/lang/StringBuilder" 137 (1, 77, 0, .null) := ⟨trivial, ⟨_, rfl, Or.inl ⟨rfl, tm 899 (by decide +kernel)⟩⟩, trivial, trivial, trivial, trivial, trivial, trivial⟩
theorem xe224 (vS : Value) : x_all vS "java/lang/StringBuilder" 343 (21, 92, 0, .null) := ⟨trivial, trivial, trivial, trivial, trivial, ⟨_, rfl, tm 917 (by decide +kernel), tm 913 (by decide +kernel), tm 832 (by decide +kernel)⟩, trivial, trivial⟩
theorem xe225 (vS : Value) : x_all vS "java/lang/AbstractStringBuilder" 3 (5, 0, 0, .null) := ⟨trivial, ⟨tm 811 (by decide +kernel), tm 35 (by decide +kernel), tm 36 (by decide +kernel)⟩, trivial, trivial, trivial, trivial, trivial, trivial⟩
theorem xe226 (vS : Value) : x_all vS "java/lang/AbstractStringBuilder" 15 (0, 12, 0, .null) := ⟨⟨_, "java/lang/AbstractStringBuilder", rfl, by decide, tm 820 (by decide +kernel), Or.inl rfl, fun h => by cases h⟩, trivial, trivial, trivial, trivial, trivial, trivial, trivial⟩
theorem xe227 (vS : Value) : x_all vS "java/lang/AbstractStringBuilder" 18 (4, 0, 0, .int 1) := ⟨trivial, trivial, trivial, trivial, trivial, trivial, trivial, Or.inr (Or.inl ⟨rfl, tm 812 (by decide +kernel)⟩)⟩
theorem xe228 (vS : Value) : x_all vS "java/lang/AbstractStringBuilder" 22 (0, 12, 1, .null) := ⟨⟨_, "java/lang/AbstractStringBuilder", rfl, by decide, tm 821 (by decide +kernel), Or.inl rfl, fun h => by cases h⟩, trivial, trivial, trivial, trivial, trivial, trivial, trivial⟩
theorem xe229 (vS : Value) : x_all vS "java/lang/AbstractStringBuilder" 79 (0, 12, 3, .null) := ⟨⟨_, "java/lang/AbstractStringBuilder", rfl, by decide, tm 823 (by decide +kernel), Or.inl rfl, fun h => by cases h⟩, trivial, trivial, trivial, trivial, trivial, trivial, trivial⟩
theorem xe230 (vS : Value) : x_all vS "java/lang/AbstractStringBuilder" 83 (20, 90, 12, .null) := ⟨trivial, trivial, trivial, trivial, trivial, ⟨_, _, ⟨"java/lang/AbstractStringBuilder", "isLatin1", "()Z"⟩, ⟨"java/lang/AbstractStringBuilder", "isLatin1", "()Z"⟩, prog_9_method_68_code, 1, (Option.some Jvm.ClassFile.FieldType.boolean), rfl, rfl, tm 860 (by decide +kernel), tm 861 (by decide +kernel), tm 864 (by decide +kernel), by decide +kernel, ⟨by decide +kernel, by decide +kernel⟩, Or.inl (tm 863 (by decide +kernel)), rfl, tm 863 (by decide +kernel), tm 861 (by decide +kernel)⟩, trivial, trivial⟩
theorem xe231 (vS : Value) : x_all vS "java/lang/AbstractStringBuilder" 100 (20, 88, 12, .null) := ⟨trivial, trivial, trivial, trivial, trivial, ⟨_, _, ⟨"java/lang/AbstractStringBuilder", "ensureCapacityInternal", "(I)V"⟩, ⟨"java/lang/AbstractStringBuilder", "isLatin1", "()Z"⟩, prog_9_method_9_code, 3, (Option.none : Option Jvm.ClassFile.FieldType), rfl, rfl, tm 840 (by decide +kernel), tm 842 (by decide +kernel), tm 843 (by decide +kernel), by decide +kernel, ⟨by decide +kernel, by decide +kernel⟩, Or.inr ⟨rfl, tm 841 (by decide +kernel)⟩, rfl, tm 863 (by decide +kernel), tm 861 (by decide +kernel)⟩, trivial, trivial⟩
theorem xe232 (vS : Value) : x_all vS "java/lang/AbstractStringBuilder" 191 (1, 81, 0, .null) := ⟨trivial, ⟨_, rfl, Or.inl ⟨rfl, tm 865 (by decide +kernel)⟩⟩, trivial, trivial, trivial, trivial, trivial, trivial⟩
theorem xe233 (vS : Value) : x_all vS "java/lang/AbstractStringBuilder" 104 (20, 89, 12, .null) := ⟨trivial, trivial, trivial, trivial, trivial, ⟨_, _, ⟨"java/lang/AbstractStringBuilder", "newCapacity", "(I)I"⟩, ⟨"java/lang/AbstractStringBuilder", "isLatin1", "()Z"⟩, prog_9_method_10_code, 6, (Option.some Jvm.ClassFile.FieldType.int), rfl, rfl, tm 844 (by decide +kernel), tm 846 (by decide +kernel), tm 847 (by decide +kernel), by decide +kernel, ⟨by decide +kernel, by decide +kernel⟩, Or.inr ⟨rfl, tm 845 (by decide +kernel)⟩, rfl, tm 863 (by decide +kernel), tm 861 (by decide +kernel)⟩, trivial, trivial⟩
theorem xe234 (vS : Value) : x_all vS "java/lang/AbstractStringBuilder" 108 (1, 63, 0, .null) := ⟨trivial, ⟨_, rfl, Or.inl ⟨rfl, tm 850 (by decide +kernel)⟩⟩, trivial, trivial, trivial, trivial, trivial, trivial⟩
theorem xe235 (vS : Value) : x_all vS "java/lang/AbstractStringBuilder" 39 (3, 0, 0, .int 2147483647) := ⟨(tm 849 (by decide +kernel)), trivial, trivial, trivial, trivial, trivial, trivial, trivial⟩
theorem xe236 (vS : Value) : x_all vS "java/lang/AbstractStringBuilder" 114 (1, 60, 0, .null) := ⟨trivial, ⟨_, rfl, Or.inl ⟨rfl, tm 848 (by decide +kernel)⟩⟩, trivial, trivial, trivial, trivial, trivial, trivial⟩
theorem xe237 (vS : Value) : x_all vS "NotationReader" 1 (5, 0, 0, .null) := ⟨trivial, ⟨tm 34 (by decide +kernel), tm 35 (by decide +kernel), tm 36 (by decide +kernel)⟩, trivial, trivial, trivial, trivial, trivial, trivial⟩
theorem xe238 (vS : Value) : x_all vS "NotationReader" 7 (2, 1, 0, .null) := ⟨⟨_, rfl, tm 37 (by decide +kernel), tm 38 (by decide +kernel), tm 2 (by decide +kernel)⟩, trivial, trivial, trivial, trivial, trivial, trivial, trivial⟩
theorem xe239 (vS : Value) : x_all vS "NotationReader" 9 (1, 122, 0, .null) := ⟨trivial, ⟨_, rfl, Or.inl ⟨rfl, tm 39 (by decide +kernel)⟩⟩, trivial, trivial, trivial, trivial, trivial, trivial⟩
theorem xe240 (vS : Value) : x_all vS "NotationReader" 10 (0, 0, 0, .int 1) := ⟨⟨_, "NotationReader", rfl, by decide, tm 125 (by decide +kernel), Or.inl rfl, fun _ => ⟨rfl, rfl⟩⟩, trivial, trivial, trivial, trivial, trivial, trivial, trivial⟩
theorem xe241 (vS : Value) : x_all vS "NotationReader" 16 (2, 4, 0, .null) := ⟨⟨_, rfl, tm 99 (by decide +kernel), tm 100 (by decide +kernel), tm 6 (by decide +kernel)⟩, trivial, trivial, trivial, trivial, trivial, trivial, trivial⟩
theorem xe242 (vS : Value) : x_all vS "NotationReader" 18 (1, 49, 0, .null) := ⟨trivial, ⟨_, rfl, Or.inl ⟨rfl, tm 101 (by decide +kernel)⟩⟩, trivial, trivial, trivial, trivial, trivial, trivial⟩
theorem xe243 (vS : Value) : x_all vS "NotationReader" 19 (0, 0, 1, .int 1) := ⟨⟨_, "NotationReader", rfl, by decide, tm 126 (by decide +kernel), Or.inl rfl, fun _ => ⟨rfl, rfl⟩⟩, trivial, trivial, trivial, trivial, trivial, trivial, trivial⟩
theorem xe244 (vS : Value) : x_all vS "NotationReader" 23 (0, 0, 2, .null) := ⟨⟨_, "NotationReader", rfl, by decide, tm 127 (by decide +kernel), Or.inl rfl, fun h => by cases h⟩, trivial, trivial, trivial, trivial, trivial, trivial, trivial⟩
theorem xe245 (vS : Value) : x_all vS "NotationReader" 27 (0, 1, 3, .null) := ⟨⟨_, "NotationReader$Tape", rfl, by decide, tm 80 (by decide +kernel), Or.inl rfl, fun h => by cases h⟩, trivial, trivial, trivial, trivial, trivial, trivial, trivial⟩
theorem xe246 (vS : Value) : x_all vS "NotationReader" 30 (9, 5, 0, .null) := ⟨trivial, trivial, trivial, trivial, ⟨_, rfl, tm 147 (by decide +kernel), tm 148 (by decide +kernel), tm 11 (by decide +kernel)⟩, trivial, trivial, trivial⟩
theorem xe247 (vS : Value) : x_all vS "NotationReader" 32 (7, 0, 0, .float 1) := ⟨trivial, trivial, trivial, trivial, trivial, trivial, trivial, ⟨_, rfl, by decide +kernel, Or.inl rfl, "the tape would have more than 4096 bytes", tr 189 (by decide +kernel)⟩⟩
theorem xe248 (vS : Value) : x_all vS "NotationReader" 34 (10, 5, 0, .null) := ⟨trivial, trivial, trivial, trivial, ⟨_, "java/lang/RuntimeException", ["java/lang/Exception"], 7, Bundle.six, rfl, rfl, by decide +kernel, by decide, by decide +kernel, ⟨by decide +kernel, by decide +kernel, by decide +kernel, by decide +kernel⟩, tmz (by decide +kernel)⟩, trivial, trivial, trivial⟩
theorem xe249 (vS : Value) : x_all vS "NotationReader" 37 (1, 123, 2, .null) := ⟨trivial, ⟨_, rfl, Or.inr (Or.inr (Or.inl ⟨rfl, tm 215 (by decide +kernel), tm 217 (by decide +kernel)⟩))⟩, trivial, trivial, trivial, trivial, trivial, trivial⟩
theorem xe250 (vS : Value) : x_all vS "NotationReader" 41 (9, 6, 0, .null) := ⟨trivial, trivial, trivial, trivial, ⟨_, rfl, tm 227 (by decide +kernel), tm 228 (by decide +kernel), tm 12 (by decide +kernel)⟩, trivial, trivial, trivial⟩
theorem xe251 (vS : Value) : x_all vS "NotationReader" 43 (7, 0, 0, .float 2) := ⟨trivial, trivial, trivial, trivial, trivial, trivial, trivial, ⟨_, rfl, by decide +kernel, Or.inl rfl, "the tape has no such length to keep", tr 236 (by decide +kernel)⟩⟩
theorem xe252 (vS : Value) : x_all vS "NotationReader" 45 (10, 6, 0, .null) := ⟨trivial, trivial, trivial, trivial, ⟨_, "java/lang/RuntimeException", ["java/lang/Exception"], 7, Bundle.six, rfl, rfl, by decide +kernel, by decide, by decide +kernel, ⟨by decide +kernel, by decide +kernel, by decide +kernel, by decide +kernel⟩, tmz (by decide +kernel)⟩, trivial, trivial, trivial⟩
theorem xe253 (vS : Value) : x_all vS "NotationReader" 46 (1, 54, 2, .null) := ⟨trivial, ⟨_, rfl, Or.inr (Or.inr (Or.inl ⟨rfl, tm 251 (by decide +kernel), tm 253 (by decide +kernel)⟩))⟩, trivial, trivial, trivial, trivial, trivial, trivial⟩
theorem xe254 (vS : Value) : x_all vS "NotationReader" 49 (1, 125, 2, .null) := ⟨trivial, ⟨_, rfl, Or.inr (Or.inr (Or.inl ⟨rfl, tm 255 (by decide +kernel), tm 257 (by decide +kernel)⟩))⟩, trivial, trivial, trivial, trivial, trivial, trivial⟩
theorem xe255 (vS : Value) : x_all vS "NotationReader" 52 (1, 105, 2, .null) := ⟨trivial, ⟨_, rfl, Or.inr (Or.inr (Or.inl ⟨rfl, tm 378 (by decide +kernel), ts (by decide +kernel)⟩))⟩, trivial, trivial, trivial, trivial, trivial, trivial⟩
theorem xe256 (vS : Value) : x_all vS "NotationReader" 55 (1, 115, 2, .null) := ⟨trivial, ⟨_, rfl, Or.inr (Or.inr (Or.inl ⟨rfl, tm 527 (by decide +kernel), ts (by decide +kernel)⟩))⟩, trivial, trivial, trivial, trivial, trivial, trivial⟩
theorem xe257 (vS : Value) : x_all vS "NotationReader" 58 (1, 57, 2, .null) := ⟨trivial, ⟨_, rfl, Or.inr (Or.inr (Or.inl ⟨rfl, tm 507 (by decide +kernel), tm 509 (by decide +kernel)⟩))⟩, trivial, trivial, trivial, trivial, trivial, trivial⟩
theorem xe258 (vS : Value) : x_all vS "NotationReader" 62 (1, 104, 2, .null) := ⟨trivial, ⟨_, rfl, Or.inr (Or.inr (Or.inl ⟨rfl, tm 546 (by decide +kernel), ts (by decide +kernel)⟩))⟩, trivial, trivial, trivial, trivial, trivial, trivial⟩
theorem xe259 (vS : Value) : x_all vS "NotationReader" 66 (0, 10, 0, .null) := ⟨⟨_, "NotationReader$Node", rfl, by decide, tm 417 (by decide +kernel), Or.inl rfl, fun h => by cases h⟩, trivial, trivial, trivial, trivial, trivial, trivial, trivial⟩
theorem xe260 (vS : Value) : x_all vS "NotationReader" 71 (0, 10, 1, .null) := ⟨⟨_, "NotationReader$Node", rfl, by decide, tm 419 (by decide +kernel), Or.inl rfl, fun h => by cases h⟩, trivial, trivial, trivial, trivial, trivial, trivial, trivial⟩
theorem xe261 (vS : Value) : x_all vS "NotationReader" 74 (0, 10, 5, .null) := ⟨⟨_, "NotationReader$Node", rfl, by decide, tm 426 (by decide +kernel), Or.inl rfl, fun h => by cases h⟩, trivial, trivial, trivial, trivial, trivial, trivial, trivial⟩
theorem xe262 (vS : Value) : x_all vS "NotationReader" 77 (1, 118, 2, .null) := ⟨trivial, ⟨_, rfl, Or.inr (Or.inr (Or.inl ⟨rfl, tm 563 (by decide +kernel), tm 565 (by decide +kernel)⟩))⟩, trivial, trivial, trivial, trivial, trivial, trivial⟩
theorem xe263 (vS : Value) : x_all vS "NotationReader" 80 (7, 0, 0, .float 8) := ⟨trivial, trivial, trivial, trivial, trivial, trivial, trivial, ⟨_, rfl, by decide +kernel, Or.inl rfl, "what is 0 .. 3", tr 567 (by decide +kernel)⟩⟩
theorem xe264 (vS : Value) : x_all vS "NotationReader" 67 (12, 10, 0, .null) := ⟨trivial, trivial, trivial, ⟨_, rfl, tm 410 (by decide +kernel)⟩, trivial, trivial, trivial, trivial⟩
theorem xe265 (vS : Value) : x_all vS "NotationReader" 82 (9, 8, 0, .null) := ⟨trivial, trivial, trivial, trivial, ⟨_, rfl, tm 576 (by decide +kernel), tm 577 (by decide +kernel), tm 28 (by decide +kernel)⟩, trivial, trivial, trivial⟩
theorem xe266 (vS : Value) : x_all vS "NotationReader" 84 (7, 0, 0, .float 9) := ⟨trivial, trivial, trivial, trivial, trivial, trivial, trivial, ⟨_, rfl, by decide +kernel, Or.inl rfl, "the node has no such part", tr 585 (by decide +kernel)⟩⟩
theorem xe267 (vS : Value) : x_all vS "NotationReader" 86 (10, 8, 0, .null) := ⟨trivial, trivial, trivial, trivial, ⟨_, "java/lang/RuntimeException", ["java/lang/Exception"], 13, xR13, rfl, rfl, by decide +kernel, by decide, by decide +kernel, ⟨by decide +kernel, by decide +kernel, by decide +kernel, by decide +kernel⟩, tmz (by decide +kernel)⟩, trivial, trivial, trivial⟩
theorem xe268 (vS : Value) : x_all vS "NotationReader" 87 (1, 55, 2, .null) := ⟨trivial, ⟨_, rfl, Or.inr (Or.inr (Or.inl ⟨rfl, tm 551 (by decide +kernel), tm 553 (by decide +kernel)⟩))⟩, trivial, trivial, trivial, trivial, trivial, trivial⟩
theorem xe269 (vS : Value) : x_all vS "NotationReader" 91 (0, 10, 6, .null) := ⟨⟨_, "NotationReader$Node", rfl, by decide, tm 427 (by decide +kernel), Or.inl rfl, fun h => by cases h⟩, trivial, trivial, trivial, trivial, trivial, trivial, trivial⟩
theorem xe270 (vS : Value) : x_all vS "NotationReader" 94 (9, 7, 0, .null) := ⟨trivial, trivial, trivial, trivial, ⟨_, rfl, tm 390 (by decide +kernel), tm 391 (by decide +kernel), tm 17 (by decide +kernel)⟩, trivial, trivial, trivial⟩
theorem xe271 (vS : Value) : x_all vS "NotationReader" 96 (7, 0, 0, .float 10) := ⟨trivial, trivial, trivial, trivial, trivial, trivial, trivial, ⟨_, rfl, by decide +kernel, Or.inl rfl, "the node is no number", tr 599 (by decide +kernel)⟩⟩
theorem xe272 (vS : Value) : x_all vS "NotationReader" 98 (10, 7, 0, .null) := ⟨trivial, trivial, trivial, trivial, ⟨_, "java/lang/RuntimeException", ["java/lang/Exception"], 7, Bundle.six, rfl, rfl, by decide +kernel, by decide, by decide +kernel, ⟨by decide +kernel, by decide +kernel, by decide +kernel, by decide +kernel⟩, tmz (by decide +kernel)⟩, trivial, trivial, trivial⟩
theorem xe273 (vS : Value) : x_all vS "NotationReader" 99 (0, 10, 4, .null) := ⟨⟨_, "NotationReader$Node", rfl, by decide, tm 425 (by decide +kernel), Or.inl rfl, fun h => by cases h⟩, trivial, trivial, trivial, trivial, trivial, trivial, trivial⟩
theorem xe274 (vS : Value) : x_all vS "NotationReader" 102 (7, 0, 0, .float 11) := ⟨trivial, trivial, trivial, trivial, trivial, trivial, trivial, ⟨_, rfl, by decide +kernel, Or.inl rfl, "the node has no such digit or byte", tr 607 (by decide +kernel)⟩⟩
theorem xe275 (vS : Value) : x_all vS "NotationReader" 104 (0, 10, 2, .null) := ⟨⟨_, "NotationReader$Node", rfl, by decide, tm 421 (by decide +kernel), Or.inl rfl, fun h => by cases h⟩, trivial, trivial, trivial, trivial, trivial, trivial, trivial⟩
theorem xe276 (vS : Value) : x_all vS "NotationReader" 107 (1, 124, 2, .null) := ⟨trivial, ⟨_, rfl, Or.inr (Or.inr (Or.inl ⟨rfl, tm 608 (by decide +kernel), tm 315 (by decide +kernel)⟩))⟩, trivial, trivial, trivial, trivial, trivial, trivial⟩
theorem xe277 (vS : Value) : x_all vS "NotationReader" 111 (1, 119, 2, .null) := ⟨trivial, ⟨_, rfl, Or.inr (Or.inr (Or.inl ⟨rfl, tm 616 (by decide +kernel), tm 618 (by decide +kernel)⟩))⟩, trivial, trivial, trivial, trivial, trivial, trivial⟩
theorem xe278 (vS : Value) : x_all vS "NotationReader" 115 (7, 0, 0, .float 12) := ⟨trivial, trivial, trivial, trivial, trivial, trivial, trivial, ⟨_, rfl, by decide +kernel, Or.inl rfl, "a node is no identifier", tr 620 (by decide +kernel)⟩⟩
theorem xe279 (vS : Value) : x_all vS "NotationReader" 117 (0, 10, 3, .null) := ⟨⟨_, "NotationReader$Node", rfl, by decide, tm 423 (by decide +kernel), Or.inl rfl, fun h => by cases h⟩, trivial, trivial, trivial, trivial, trivial, trivial, trivial⟩
theorem xe280 (vS : Value) : x_all vS "NotationReader" 120 (7, 0, 0, .float 13) := ⟨trivial, trivial, trivial, trivial, trivial, trivial, trivial, ⟨_, rfl, by decide +kernel, Or.inl rfl, "what is 0 or 1", tr 628 (by decide +kernel)⟩⟩
theorem xe281 (vS : Value) : x_all vS "NotationReader" 122 (7, 0, 0, .float 7) := ⟨trivial, trivial, trivial, trivial, trivial, trivial, trivial, ⟨_, rfl, by decide +kernel, Or.inl rfl, "there is no such node", tr 550 (by decide +kernel)⟩⟩
theorem xe282 (vS : Value) : x_all vS "NotationReader" 124 (0, 1, 4, .null) := ⟨⟨_, "NotationReader$Tape", rfl, by decide, tm 83 (by decide +kernel), Or.inl rfl, fun h => by cases h⟩, trivial, trivial, trivial, trivial, trivial, trivial, trivial⟩
theorem xe283 (vS : Value) : x_all vS "NotationReader" 128 (0, 2, 0, .null) := ⟨⟨_, "NotationReader$Token", rfl, by decide, tm 50 (by decide +kernel), Or.inl rfl, fun h => by cases h⟩, trivial, trivial, trivial, trivial, trivial, trivial, trivial⟩
theorem xe284 (vS : Value) : x_all vS "NotationReader" 131 (1, 108, 2, .null) := ⟨trivial, ⟨_, rfl, Or.inr (Or.inr (Or.inl ⟨rfl, tm 382 (by decide +kernel), ts (by decide +kernel)⟩))⟩, trivial, trivial, trivial, trivial, trivial, trivial⟩
theorem xe285 (vS : Value) : x_all vS "NotationReader" 134 (0, 1, 5, .null) := ⟨⟨_, "NotationReader$Tape", rfl, by decide, tm 85 (by decide +kernel), Or.inl rfl, fun h => by cases h⟩, trivial, trivial, trivial, trivial, trivial, trivial, trivial⟩
theorem xe286 (vS : Value) : x_all vS "NotationReader" 137 (1, 106, 2, .null) := ⟨trivial, ⟨_, rfl, Or.inr (Or.inr (Or.inl ⟨rfl, tm 531 (by decide +kernel), ts (by decide +kernel)⟩))⟩, trivial, trivial, trivial, trivial, trivial, trivial⟩
theorem xe287 (vS : Value) : x_all vS "NotationReader" 140 (1, 107, 2, .null) := ⟨trivial, ⟨_, rfl, Or.inr (Or.inr (Or.inl ⟨rfl, tm 535 (by decide +kernel), ts (by decide +kernel)⟩))⟩, trivial, trivial, trivial, trivial, trivial, trivial⟩
theorem xe288 (vS : Value) : x_all vS "NotationReader" 143 (1, 112, 0, .null) := ⟨trivial, ⟨_, rfl, Or.inl ⟨rfl, tm 516 (by decide +kernel)⟩⟩, trivial, trivial, trivial, trivial, trivial, trivial⟩
theorem xe289 (vS : Value) : x_all vS "NotationReader" 147 (1, 113, 2, .null) := ⟨trivial, ⟨_, rfl, Or.inr (Or.inr (Or.inl ⟨rfl, tm 406 (by decide +kernel), ts (by decide +kernel)⟩))⟩, trivial, trivial, trivial, trivial, trivial, trivial⟩
theorem xe290 (vS : Value) : x_all vS "NotationReader" 150 (1, 126, 2, .null) := ⟨trivial, ⟨_, rfl, Or.inr (Or.inr (Or.inl ⟨rfl, tm 511 (by decide +kernel), tm 261 (by decide +kernel)⟩))⟩, trivial, trivial, trivial, trivial, trivial, trivial⟩
theorem xe291 (vS : Value) : x_all vS "NotationReader" 153 (1, 116, 2, .null) := ⟨trivial, ⟨_, rfl, Or.inr (Or.inr (Or.inl ⟨rfl, tm 386 (by decide +kernel), ts (by decide +kernel)⟩))⟩, trivial, trivial, trivial, trivial, trivial, trivial⟩
theorem xe292 (vS : Value) : x_all vS "NotationReader" 156 (1, 114, 2, .null) := ⟨trivial, ⟨_, rfl, Or.inr (Or.inr (Or.inl ⟨rfl, tm 503 (by decide +kernel), ts (by decide +kernel)⟩))⟩, trivial, trivial, trivial, trivial, trivial, trivial⟩
theorem xe293 (vS : Value) : x_all vS "NotationReader" 160 (0, 2, 5, .null) := ⟨⟨_, "NotationReader$Token", rfl, by decide, tm 62 (by decide +kernel), Or.inl rfl, fun h => by cases h⟩, trivial, trivial, trivial, trivial, trivial, trivial, trivial⟩
theorem xe294 (vS : Value) : x_all vS "NotationReader" 161 (1, 109, 2, .null) := ⟨trivial, ⟨_, rfl, Or.inr (Or.inr (Or.inl ⟨rfl, tm 512 (by decide +kernel), ts (by decide +kernel)⟩))⟩, trivial, trivial, trivial, trivial, trivial, trivial⟩
theorem xe295 (vS : Value) : x_all vS "NotationReader" 164 (1, 110, 2, .null) := ⟨trivial, ⟨_, rfl, Or.inr (Or.inr (Or.inl ⟨rfl, tm 519 (by decide +kernel), ts (by decide +kernel)⟩))⟩, trivial, trivial, trivial, trivial, trivial, trivial⟩
theorem xe296 (vS : Value) : x_all vS "NotationReader" 167 (1, 111, 2, .null) := ⟨trivial, ⟨_, rfl, Or.inr (Or.inr (Or.inl ⟨rfl, tm 523 (by decide +kernel), ts (by decide +kernel)⟩))⟩, trivial, trivial, trivial, trivial, trivial, trivial⟩
theorem xe297 (vS : Value) : x_all vS "NotationReader" 67 (2, 10, 0, .null) := ⟨⟨_, rfl, tm 410 (by decide +kernel), tm 411 (by decide +kernel), tm 18 (by decide +kernel)⟩, trivial, trivial, trivial, trivial, trivial, trivial, trivial⟩
theorem xe298 (vS : Value) : x_all vS "NotationReader" 171 (1, 117, 0, .null) := ⟨trivial, ⟨_, rfl, Or.inl ⟨rfl, tm 412 (by decide +kernel)⟩⟩, trivial, trivial, trivial, trivial, trivial, trivial⟩
theorem xe299 (vS : Value) : x_all vS "NotationReader" 174 (1, 50, 2, .null) := ⟨trivial, ⟨_, rfl, Or.inr (Or.inr (Or.inl ⟨rfl, tm 443 (by decide +kernel), tm 445 (by decide +kernel)⟩))⟩, trivial, trivial, trivial, trivial, trivial, trivial⟩
theorem xe300 (vS : Value) : x_all vS "NotationReader" 177 (0, 2, 1, .null) := ⟨⟨_, "NotationReader$Token", rfl, by decide, tm 53 (by decide +kernel), Or.inl rfl, fun h => by cases h⟩, trivial, trivial, trivial, trivial, trivial, trivial, trivial⟩
theorem xe301 (vS : Value) : x_all vS "NotationReader" 178 (7, 0, 0, .float 6) := ⟨trivial, trivial, trivial, trivial, trivial, trivial, trivial, ⟨_, rfl, by decide +kernel, Or.inl rfl, "the tape is no value", tr 399 (by decide +kernel)⟩⟩
theorem xe302 (vS : Value) : x_all vS "NotationReader$Node" 3 (5, 0, 0, .null) := ⟨trivial, ⟨tm 415 (by decide +kernel), tm 35 (by decide +kernel), tm 36 (by decide +kernel)⟩, trivial, trivial, trivial, trivial, trivial, trivial⟩
theorem xe303 (vS : Value) : x_all vS "NotationReader$Node" 9 (0, 10, 0, .null) := ⟨⟨_, "NotationReader$Node", rfl, by decide, tm 416 (by decide +kernel), Or.inl rfl, fun h => by cases h⟩, trivial, trivial, trivial, trivial, trivial, trivial, trivial⟩
theorem xe304 (vS : Value) : x_all vS "NotationReader$Node" 15 (0, 2, 1, .null) := ⟨⟨_, "NotationReader$Token", rfl, by decide, tm 51 (by decide +kernel), Or.inl rfl, fun h => by cases h⟩, trivial, trivial, trivial, trivial, trivial, trivial, trivial⟩
theorem xe305 (vS : Value) : x_all vS "NotationReader$Node" 20 (0, 10, 1, .int 1) := ⟨⟨_, "NotationReader$Node", rfl, by decide, tm 418 (by decide +kernel), Or.inl rfl, fun _ => ⟨rfl, rfl⟩⟩, trivial, trivial, trivial, trivial, trivial, trivial, trivial⟩
theorem xe306 (vS : Value) : x_all vS "NotationReader$Node" 21 (0, 2, 3, .null) := ⟨⟨_, "NotationReader$Token", rfl, by decide, tm 56 (by decide +kernel), Or.inl rfl, fun h => by cases h⟩, trivial, trivial, trivial, trivial, trivial, trivial, trivial⟩
theorem xe307 (vS : Value) : x_all vS "NotationReader$Node" 24 (0, 10, 2, .int 1) := ⟨⟨_, "NotationReader$Node", rfl, by decide, tm 420 (by decide +kernel), Or.inl rfl, fun _ => ⟨rfl, rfl⟩⟩, trivial, trivial, trivial, trivial, trivial, trivial, trivial⟩
theorem xe308 (vS : Value) : x_all vS "NotationReader$Node" 25 (0, 2, 4, .null) := ⟨⟨_, "NotationReader$Token", rfl, by decide, tm 58 (by decide +kernel), Or.inl rfl, fun h => by cases h⟩, trivial, trivial, trivial, trivial, trivial, trivial, trivial⟩
theorem xe309 (vS : Value) : x_all vS "NotationReader$Node" 28 (0, 10, 3, .int 1) := ⟨⟨_, "NotationReader$Node", rfl, by decide, tm 422 (by decide +kernel), Or.inl rfl, fun _ => ⟨rfl, rfl⟩⟩, trivial, trivial, trivial, trivial, trivial, trivial, trivial⟩
theorem xe310 (vS : Value) : x_all vS "NotationReader$Node" 29 (0, 2, 5, .null) := ⟨⟨_, "NotationReader$Token", rfl, by decide, tm 60 (by decide +kernel), Or.inl rfl, fun h => by cases h⟩, trivial, trivial, trivial, trivial, trivial, trivial, trivial⟩
theorem xe311 (vS : Value) : x_all vS "NotationReader$Node" 33 (0, 10, 4, .null) := ⟨⟨_, "NotationReader$Node", rfl, by decide, tm 424 (by decide +kernel), Or.inl rfl, fun h => by cases h⟩, trivial, trivial, trivial, trivial, trivial, trivial, trivial⟩
theorem xe312 (vS : Value) : x_all vS "NotationReader$Token" 3 (5, 0, 0, .null) := ⟨trivial, ⟨tm 48 (by decide +kernel), tm 35 (by decide +kernel), tm 36 (by decide +kernel)⟩, trivial, trivial, trivial, trivial, trivial, trivial⟩
theorem xe313 (vS : Value) : x_all vS "NotationReader$Token" 9 (0, 2, 0, .null) := ⟨⟨_, "NotationReader$Token", rfl, by decide, tm 49 (by decide +kernel), Or.inl rfl, fun h => by cases h⟩, trivial, trivial, trivial, trivial, trivial, trivial, trivial⟩
theorem xe314 (vS : Value) : x_all vS "NotationReader$Token" 15 (0, 2, 2, .null) := ⟨⟨_, "NotationReader$Token", rfl, by decide, tm 54 (by decide +kernel), Or.inl rfl, fun h => by cases h⟩, trivial, trivial, trivial, trivial, trivial, trivial, trivial⟩
theorem xe315 (vS : Value) : x_all vS "NotationReader$Tape" 3 (5, 0, 0, .null) := ⟨trivial, ⟨tm 42 (by decide +kernel), tm 35 (by decide +kernel), tm 36 (by decide +kernel)⟩, trivial, trivial, trivial, trivial, trivial, trivial⟩
theorem xe316 (vS : Value) : x_all vS "NotationReader$Tape" 9 (0, 1, 0, .int 1) := ⟨⟨_, "NotationReader$Tape", rfl, by decide, tm 77 (by decide +kernel), Or.inl rfl, fun _ => ⟨rfl, rfl⟩⟩, trivial, trivial, trivial, trivial, trivial, trivial, trivial⟩
theorem xe317 (vS : Value) : x_all vS "NotationReader$Tape" 15 (0, 1, 1, .int 1) := ⟨⟨_, "NotationReader$Tape", rfl, by decide, tm 78 (by decide +kernel), Or.inl rfl, fun _ => ⟨rfl, rfl⟩⟩, trivial, trivial, trivial, trivial, trivial, trivial, trivial⟩
theorem xe318 (vS : Value) : x_all vS "NotationReader$Tape" 18 (2, 2, 0, .null) := ⟨⟨_, rfl, tm 43 (by decide +kernel), tm 44 (by decide +kernel), tm 3 (by decide +kernel)⟩, trivial, trivial, trivial, trivial, trivial, trivial, trivial⟩
theorem xe319 (vS : Value) : x_all vS "NotationReader$Tape" 20 (1, 120, 0, .null) := ⟨trivial, ⟨_, rfl, Or.inl ⟨rfl, tm 45 (by decide +kernel)⟩⟩, trivial, trivial, trivial, trivial, trivial, trivial⟩
theorem xe320 (vS : Value) : x_all vS "NotationReader$Tape" 21 (0, 1, 4, .null) := ⟨⟨_, "NotationReader$Tape", rfl, by decide, tm 82 (by decide +kernel), Or.inl rfl, fun h => by cases h⟩, trivial, trivial, trivial, trivial, trivial, trivial, trivial⟩
theorem xe321 (vS : Value) : x_all vS "NotationReader$Tape" 25 (0, 1, 5, .null) := ⟨⟨_, "NotationReader$Tape", rfl, by decide, tm 84 (by decide +kernel), Or.inl rfl, fun h => by cases h⟩, trivial, trivial, trivial, trivial, trivial, trivial, trivial⟩
theorem xe322 (vS : Value) : x_all vS "NotationReader$Tape" 28 (0, 1, 3, .null) := ⟨⟨_, "NotationReader$Tape", rfl, by decide, tm 81 (by decide +kernel), Or.inl rfl, fun h => by cases h⟩, trivial, trivial, trivial, trivial, trivial, trivial, trivial⟩
theorem xe323 (vS : Value) : x_all vS "NotationReader$Tape" 32 (0, 1, 2, .null) := ⟨⟨_, "NotationReader$Tape", rfl, by decide, tm 79 (by decide +kernel), Or.inl rfl, fun h => by cases h⟩, trivial, trivial, trivial, trivial, trivial, trivial, trivial⟩
theorem xe324 (vS : Value) : x_all vS "NotationReader$Tape" 35 (0, 2, 2, .null) := ⟨⟨_, "NotationReader$Token", rfl, by decide, tm 55 (by decide +kernel), Or.inl rfl, fun h => by cases h⟩, trivial, trivial, trivial, trivial, trivial, trivial, trivial⟩
theorem xe325 (vS : Value) : x_all vS "NotationReader$Tape" 38 (1, 126, 2, .null) := ⟨trivial, ⟨_, rfl, Or.inr (Or.inr (Or.inl ⟨rfl, tm 259 (by decide +kernel), tm 261 (by decide +kernel)⟩))⟩, trivial, trivial, trivial, trivial, trivial, trivial⟩
theorem xe326 (vS : Value) : x_all vS "NotationReader$Tape" 41 (1, 133, 2, .null) := ⟨trivial, ⟨_, rfl, Or.inr (Or.inr (Or.inl ⟨rfl, tm 263 (by decide +kernel), ts (by decide +kernel)⟩))⟩, trivial, trivial, trivial, trivial, trivial, trivial⟩
theorem xe327 (vS : Value) : x_all vS "NotationReader$Tape" 45 (0, 2, 1, .null) := ⟨⟨_, "NotationReader$Token", rfl, by decide, tm 52 (by decide +kernel), Or.inl rfl, fun h => by cases h⟩, trivial, trivial, trivial, trivial, trivial, trivial, trivial⟩
theorem xe328 (vS : Value) : x_all vS "NotationReader$Tape" 48 (0, 2, 3, .null) := ⟨⟨_, "NotationReader$Token", rfl, by decide, tm 57 (by decide +kernel), Or.inl rfl, fun h => by cases h⟩, trivial, trivial, trivial, trivial, trivial, trivial, trivial⟩
theorem xe329 (vS : Value) : x_all vS "NotationReader$Tape" 51 (0, 2, 5, .null) := ⟨⟨_, "NotationReader$Token", rfl, by decide, tm 61 (by decide +kernel), Or.inl rfl, fun h => by cases h⟩, trivial, trivial, trivial, trivial, trivial, trivial, trivial⟩
theorem xe330 (vS : Value) : x_all vS "NotationReader$Tape" 55 (1, 121, 2, .null) := ⟨trivial, ⟨_, rfl, Or.inr (Or.inr (Or.inl ⟨rfl, tm 274 (by decide +kernel), tm 276 (by decide +kernel)⟩))⟩, trivial, trivial, trivial, trivial, trivial, trivial⟩
theorem xe331 (vS : Value) : x_all vS "NotationReader$Tape" 59 (1, 135, 2, .null) := ⟨trivial, ⟨_, rfl, Or.inr (Or.inr (Or.inl ⟨rfl, tm 267 (by decide +kernel), ts (by decide +kernel)⟩))⟩, trivial, trivial, trivial, trivial, trivial, trivial⟩
theorem xe332 (vS : Value) : x_all vS "NotationReader$Tape" 62 (1, 138, 0, .null) := ⟨trivial, ⟨_, rfl, Or.inl ⟨rfl, tm 278 (by decide +kernel)⟩⟩, trivial, trivial, trivial, trivial, trivial, trivial⟩
theorem xe333 (vS : Value) : x_all vS "NotationReader$Tape" 66 (1, 127, 2, .null) := ⟨trivial, ⟨_, rfl, Or.inr (Or.inr (Or.inl ⟨rfl, tm 281 (by decide +kernel), ts (by decide +kernel)⟩))⟩, trivial, trivial, trivial, trivial, trivial, trivial⟩
theorem xe334 (vS : Value) : x_all vS "NotationReader$Tape" 70 (1, 139, 0, .null) := ⟨trivial, ⟨_, rfl, Or.inl ⟨rfl, tm 288 (by decide +kernel)⟩⟩, trivial, trivial, trivial, trivial, trivial, trivial⟩
theorem xe335 (vS : Value) : x_all vS "NotationReader$Tape" 73 (1, 129, 2, .null) := ⟨trivial, ⟨_, rfl, Or.inr (Or.inr (Or.inl ⟨rfl, tm 357 (by decide +kernel), ts (by decide +kernel)⟩))⟩, trivial, trivial, trivial, trivial, trivial, trivial⟩
theorem xe336 (vS : Value) : x_all vS "NotationReader$Tape" 76 (1, 130, 2, .null) := ⟨trivial, ⟨_, rfl, Or.inr (Or.inr (Or.inl ⟨rfl, tm 363 (by decide +kernel), ts (by decide +kernel)⟩))⟩, trivial, trivial, trivial, trivial, trivial, trivial⟩
theorem xe337 (vS : Value) : x_all vS "NotationReader$Tape" 79 (1, 131, 2, .null) := ⟨trivial, ⟨_, rfl, Or.inr (Or.inr (Or.inl ⟨rfl, tm 367 (by decide +kernel), ts (by decide +kernel)⟩))⟩, trivial, trivial, trivial, trivial, trivial, trivial⟩
theorem xe338 (vS : Value) : x_all vS "NotationReader$Tape" 82 (1, 132, 2, .null) := ⟨trivial, ⟨_, rfl, Or.inr (Or.inr (Or.inl ⟨rfl, tm 374 (by decide +kernel), ts (by decide +kernel)⟩))⟩, trivial, trivial, trivial, trivial, trivial, trivial⟩
theorem xe339 (vS : Value) : x_all vS "NotationReader$Tape" 86 (0, 2, 4, .null) := ⟨⟨_, "NotationReader$Token", rfl, by decide, tm 59 (by decide +kernel), Or.inl rfl, fun h => by cases h⟩, trivial, trivial, trivial, trivial, trivial, trivial, trivial⟩
theorem xe340 (vS : Value) : x_all vS "NotationReader$Tape" 88 (1, 140, 0, .null) := ⟨trivial, ⟨_, rfl, Or.inl ⟨rfl, tm 285 (by decide +kernel)⟩⟩, trivial, trivial, trivial, trivial, trivial, trivial⟩
theorem xe341 (vS : Value) : x_all vS "NotationReader$Tape" 91 (1, 134, 2, .null) := ⟨trivial, ⟨_, rfl, Or.inr (Or.inr (Or.inl ⟨rfl, tm 291 (by decide +kernel), ts (by decide +kernel)⟩))⟩, trivial, trivial, trivial, trivial, trivial, trivial⟩
theorem xe342 (vS : Value) : x_all vS "NotationReader$Tape" 95 (1, 137, 0, .null) := ⟨trivial, ⟨_, rfl, Or.inl ⟨rfl, tm 295 (by decide +kernel)⟩⟩, trivial, trivial, trivial, trivial, trivial, trivial⟩
theorem xe343 (vS : Value) : x_all vS "NotationReader$Tape" 98 (7, 0, 0, .float 3) := ⟨trivial, trivial, trivial, trivial, trivial, trivial, trivial, ⟨_, rfl, by decide +kernel, Or.inl rfl, "TRUE", tr 298 (by decide +kernel)⟩⟩
theorem xe344 (vS : Value) : x_all vS "NotationReader$Tape" 100 (1, 128, 2, .null) := ⟨trivial, ⟨_, rfl, Or.inr (Or.inr (Or.inl ⟨rfl, tm 299 (by decide +kernel), ts (by decide +kernel)⟩))⟩, trivial, trivial, trivial, trivial, trivial, trivial⟩
theorem xe345 (vS : Value) : x_all vS "NotationReader$Tape" 104 (7, 0, 0, .float 4) := ⟨trivial, trivial, trivial, trivial, trivial, trivial, trivial, ⟨_, rfl, by decide +kernel, Or.inl rfl, "FALSE", tr 355 (by decide +kernel)⟩⟩
theorem xe346 (vS : Value) : x_all vS "NotationReader$Tape" 106 (7, 0, 0, .float 5) := ⟨trivial, trivial, trivial, trivial, trivial, trivial, trivial, ⟨_, rfl, by decide +kernel, Or.inl rfl, "NULL", tr 356 (by decide +kernel)⟩⟩
theorem xe347 (vS : Value) : x_all vS "NotationReader$Tape" 108 (1, 71, 2, .null) := ⟨trivial, ⟨_, rfl, Or.inr (Or.inr (Or.inl ⟨rfl, tm 303 (by decide +kernel), tm 305 (by decide +kernel)⟩))⟩, trivial, trivial, trivial, trivial, trivial, trivial⟩
theorem xe348 (vS : Value) : x_all vS "NotationReader$Tape" 113 (1, 124, 2, .null) := ⟨trivial, ⟨_, rfl, Or.inr (Or.inr (Or.inl ⟨rfl, tm 313 (by decide +kernel), tm 315 (by decide +kernel)⟩))⟩, trivial, trivial, trivial, trivial, trivial, trivial⟩
theorem xe349 (vS : Value) : x_all vS "NotationReader$Tape" 116 (1, 74, 2, .null) := ⟨trivial, ⟨_, rfl, Or.inr (Or.inr (Or.inl ⟨rfl, tm 317 (by decide +kernel), tm 319 (by decide +kernel)⟩))⟩, trivial, trivial, trivial, trivial, trivial, trivial⟩
theorem xe350 (vS : Value) : x_all vS "NotationReader$Tape" 122 (3, 0, 0, .long 9223372036854775807) := ⟨(tm 361 (by decide +kernel)), trivial, trivial, trivial, trivial, trivial, trivial, trivial⟩
theorem xe351 (vS : Value) : x_all vS "NotationReader$Tape" 124 (3, 0, 0, .long 10) := ⟨(tm 362 (by decide +kernel)), trivial, trivial, trivial, trivial, trivial, trivial, trivial⟩
theorem xe352 (vS : Value) : x_all vS "NotationReader$Tape" 126 (1, 141, 0, .null) := ⟨trivial, ⟨_, rfl, Or.inl ⟨rfl, tm 371 (by decide +kernel)⟩⟩, trivial, trivial, trivial, trivial, trivial, trivial⟩
theorem xe353 (vS : Value) : x_all vS "NotationReader$Tape" 129 (1, 136, 0, .null) := ⟨trivial, ⟨_, rfl, Or.inl ⟨rfl, tm 271 (by decide +kernel)⟩⟩, trivial, trivial, trivial, trivial, trivial, trivial⟩
theorem x_pool {vS : Value} {own : String} {l : List (Nat × ab_N)} (h : ∀ q ∈ l, x_all vS own q.1 q.2) {x : Nat} {n : ab_N} (hx : xlk l x = some n) : x_all vS own x n := by
  unfold xlk at hx
  cases hf : l.find? (fun q => q.1 == x) with
  | none => rw [hf] at hx; cases hx
  | some q =>
    rw [hf] at hx
    have h2 : q.1 = x := by have z := List.find?_some hf; simpa using z
    have h3 : q.2 = n := Option.some.inj hx
    have h4 := h q (List.mem_of_find?_eq_some hf)
    rw [h2, h3] at h4
    exact h4
theorem xp0 (vS : Value) : ∀ q ∈ xP0, x_all vS "NotationReaderLaw" q.1 q.2 := List.forall_mem_cons.mpr ⟨xe0 vS, List.forall_mem_cons.mpr ⟨xe1 vS, List.forall_mem_cons.mpr ⟨xe2 vS, List.forall_mem_cons.mpr ⟨xe3 vS, List.forall_mem_cons.mpr ⟨xe4 vS, List.forall_mem_cons.mpr ⟨xe5 vS, List.forall_mem_cons.mpr ⟨xe6 vS, List.forall_mem_cons.mpr ⟨xe7 vS, List.forall_mem_cons.mpr ⟨xe8 vS, List.forall_mem_cons.mpr ⟨xe9 vS, List.forall_mem_cons.mpr ⟨xe10 vS, List.forall_mem_cons.mpr ⟨xe11 vS, List.forall_mem_cons.mpr ⟨xe12 vS, List.forall_mem_cons.mpr ⟨xe13 vS, List.forall_mem_cons.mpr ⟨xe14 vS, List.forall_mem_cons.mpr ⟨xe15 vS, List.forall_mem_cons.mpr ⟨xe16 vS, List.forall_mem_cons.mpr ⟨xe17 vS, List.forall_mem_cons.mpr ⟨xe18 vS, List.forall_mem_cons.mpr ⟨xe19 vS, List.forall_mem_cons.mpr ⟨xe20 vS, List.forall_mem_cons.mpr ⟨xe21 vS, List.forall_mem_cons.mpr ⟨xe22 vS, List.forall_mem_cons.mpr ⟨xe23 vS, List.forall_mem_cons.mpr ⟨xe24 vS, fun _ h => absurd h List.not_mem_nil⟩⟩⟩⟩⟩⟩⟩⟩⟩⟩⟩⟩⟩⟩⟩⟩⟩⟩⟩⟩⟩⟩⟩⟩⟩
theorem xp1 (vS : Value) : ∀ q ∈ xP1, x_all vS "NotationReaderLaw" q.1 q.2 := List.forall_mem_cons.mpr ⟨xe25 vS, List.forall_mem_cons.mpr ⟨xe26 vS, fun _ h => absurd h List.not_mem_nil⟩⟩
theorem xp2 (vS : Value) : ∀ q ∈ xP2, x_all vS "NotationReaderLaw" q.1 q.2 := List.forall_mem_cons.mpr ⟨xe27 vS, List.forall_mem_cons.mpr ⟨xe28 vS, fun _ h => absurd h List.not_mem_nil⟩⟩
theorem xp3 (vS : Value) : ∀ q ∈ xP3, x_all vS "NotationReaderLaw" q.1 q.2 := List.forall_mem_cons.mpr ⟨xe29 vS, List.forall_mem_cons.mpr ⟨xe30 vS, fun _ h => absurd h List.not_mem_nil⟩⟩
theorem xp4 (vS : Value) : ∀ q ∈ xP4, x_all vS "NotationReaderLaw" q.1 q.2 := List.forall_mem_cons.mpr ⟨xe28 vS, List.forall_mem_cons.mpr ⟨xe31 vS, fun _ h => absurd h List.not_mem_nil⟩⟩
theorem xp5 (vS : Value) : ∀ q ∈ xP5, x_all vS "NotationReaderLaw" q.1 q.2 := List.forall_mem_cons.mpr ⟨xe28 vS, List.forall_mem_cons.mpr ⟨xe32 vS, List.forall_mem_cons.mpr ⟨xe33 vS, fun _ h => absurd h List.not_mem_nil⟩⟩⟩
theorem xp6 (vS : Value) : ∀ q ∈ xP6, x_all vS "NotationReaderLaw" q.1 q.2 := List.forall_mem_cons.mpr ⟨xe28 vS, List.forall_mem_cons.mpr ⟨xe30 vS, List.forall_mem_cons.mpr ⟨xe34 vS, fun _ h => absurd h List.not_mem_nil⟩⟩⟩
theorem xp7 (vS : Value) : ∀ q ∈ xP7, x_all vS "NotationReaderLaw" q.1 q.2 := List.forall_mem_cons.mpr ⟨xe28 vS, List.forall_mem_cons.mpr ⟨xe33 vS, List.forall_mem_cons.mpr ⟨xe35 vS, fun _ h => absurd h List.not_mem_nil⟩⟩⟩
theorem xp8 (vS : Value) : ∀ q ∈ xP8, x_all vS "NotationReaderLaw" q.1 q.2 := List.forall_mem_cons.mpr ⟨xe28 vS, List.forall_mem_cons.mpr ⟨xe30 vS, List.forall_mem_cons.mpr ⟨xe36 vS, fun _ h => absurd h List.not_mem_nil⟩⟩⟩
theorem xp9 (vS : Value) : ∀ q ∈ xP9, x_all vS "NotationReaderLaw" q.1 q.2 := List.forall_mem_cons.mpr ⟨xe28 vS, List.forall_mem_cons.mpr ⟨xe37 vS, fun _ h => absurd h List.not_mem_nil⟩⟩
theorem xp10 (vS : Value) : ∀ q ∈ xP10, x_all vS "NotationReaderModel" q.1 q.2 := List.forall_mem_cons.mpr ⟨xe38 vS, List.forall_mem_cons.mpr ⟨xe39 vS, List.forall_mem_cons.mpr ⟨xe40 vS, List.forall_mem_cons.mpr ⟨xe41 vS, List.forall_mem_cons.mpr ⟨xe42 vS, List.forall_mem_cons.mpr ⟨xe43 vS, List.forall_mem_cons.mpr ⟨xe44 vS, List.forall_mem_cons.mpr ⟨xe45 vS, List.forall_mem_cons.mpr ⟨xe46 vS, List.forall_mem_cons.mpr ⟨xe47 vS, List.forall_mem_cons.mpr ⟨xe48 vS, List.forall_mem_cons.mpr ⟨xe49 vS, List.forall_mem_cons.mpr ⟨xe50 vS, List.forall_mem_cons.mpr ⟨xe51 vS, List.forall_mem_cons.mpr ⟨xe52 vS, List.forall_mem_cons.mpr ⟨xe53 vS, List.forall_mem_cons.mpr ⟨xe54 vS, List.forall_mem_cons.mpr ⟨xe55 vS, List.forall_mem_cons.mpr ⟨xe56 vS, List.forall_mem_cons.mpr ⟨xe57 vS, List.forall_mem_cons.mpr ⟨xe58 vS, List.forall_mem_cons.mpr ⟨xe59 vS, List.forall_mem_cons.mpr ⟨xe60 vS, List.forall_mem_cons.mpr ⟨xe61 vS, List.forall_mem_cons.mpr ⟨xe62 vS, List.forall_mem_cons.mpr ⟨xe63 vS, List.forall_mem_cons.mpr ⟨xe64 vS, List.forall_mem_cons.mpr ⟨xe65 vS, List.forall_mem_cons.mpr ⟨xe66 vS, List.forall_mem_cons.mpr ⟨xe67 vS, List.forall_mem_cons.mpr ⟨xe68 vS, List.forall_mem_cons.mpr ⟨xe69 vS, List.forall_mem_cons.mpr ⟨xe70 vS, List.forall_mem_cons.mpr ⟨xe71 vS, List.forall_mem_cons.mpr ⟨xe72 vS, List.forall_mem_cons.mpr ⟨xe73 vS, List.forall_mem_cons.mpr ⟨xe74 vS, List.forall_mem_cons.mpr ⟨xe75 vS, List.forall_mem_cons.mpr ⟨xe76 vS, List.forall_mem_cons.mpr ⟨xe77 vS, List.forall_mem_cons.mpr ⟨xe78 vS, List.forall_mem_cons.mpr ⟨xe79 vS, List.forall_mem_cons.mpr ⟨xe80 vS, List.forall_mem_cons.mpr ⟨xe81 vS, List.forall_mem_cons.mpr ⟨xe82 vS, List.forall_mem_cons.mpr ⟨xe83 vS, List.forall_mem_cons.mpr ⟨xe84 vS, List.forall_mem_cons.mpr ⟨xe85 vS, List.forall_mem_cons.mpr ⟨xe86 vS, List.forall_mem_cons.mpr ⟨xe87 vS, List.forall_mem_cons.mpr ⟨xe88 vS, List.forall_mem_cons.mpr ⟨xe89 vS, List.forall_mem_cons.mpr ⟨xe90 vS, List.forall_mem_cons.mpr ⟨xe91 vS, List.forall_mem_cons.mpr ⟨xe92 vS, List.forall_mem_cons.mpr ⟨xe93 vS, List.forall_mem_cons.mpr ⟨xe94 vS, List.forall_mem_cons.mpr ⟨xe95 vS, List.forall_mem_cons.mpr ⟨xe96 vS, List.forall_mem_cons.mpr ⟨xe97 vS, fun _ h => absurd h List.not_mem_nil⟩⟩⟩⟩⟩⟩⟩⟩⟩⟩⟩⟩⟩⟩⟩⟩⟩⟩⟩⟩⟩⟩⟩⟩⟩⟩⟩⟩⟩⟩⟩⟩⟩⟩⟩⟩⟩⟩⟩⟩⟩⟩⟩⟩⟩⟩⟩⟩⟩⟩⟩⟩⟩⟩⟩⟩⟩⟩⟩⟩
theorem xp11 (vS : Value) : ∀ q ∈ xP11, x_all vS "NotationReaderModel" q.1 q.2 := List.forall_mem_cons.mpr ⟨xe98 vS, fun _ h => absurd h List.not_mem_nil⟩
theorem xp12 (vS : Value) : ∀ q ∈ xP12, x_all vS "NotationReaderModel" q.1 q.2 := List.forall_mem_cons.mpr ⟨xe98 vS, fun _ h => absurd h List.not_mem_nil⟩
theorem xp13 (vS : Value) : ∀ q ∈ xP13, x_all vS "NotationReaderModel" q.1 q.2 := List.forall_mem_cons.mpr ⟨xe39 vS, List.forall_mem_cons.mpr ⟨xe99 vS, fun _ h => absurd h List.not_mem_nil⟩⟩
theorem xp14 (vS : Value) : ∀ q ∈ xP14, x_all vS "NotationReaderModel" q.1 q.2 := fun _ h => absurd h List.not_mem_nil
theorem xp15 (vS : Value) : ∀ q ∈ xP15, x_all vS "NotationReaderModel" q.1 q.2 := fun _ h => absurd h List.not_mem_nil
theorem xp16 (vS : Value) : ∀ q ∈ xP16, x_all vS "NotationReaderModel" q.1 q.2 := fun _ h => absurd h List.not_mem_nil
theorem xp17 (vS : Value) : ∀ q ∈ xP17, x_all vS "NotationReaderModel" q.1 q.2 := List.forall_mem_cons.mpr ⟨xe99 vS, List.forall_mem_cons.mpr ⟨xe100 vS, List.forall_mem_cons.mpr ⟨xe101 vS, List.forall_mem_cons.mpr ⟨xe102 vS, fun _ h => absurd h List.not_mem_nil⟩⟩⟩⟩
theorem xp18 (vS : Value) : ∀ q ∈ xP18, x_all vS "NotationReaderModel" q.1 q.2 := List.forall_mem_cons.mpr ⟨xe101 vS, List.forall_mem_cons.mpr ⟨xe103 vS, List.forall_mem_cons.mpr ⟨xe104 vS, List.forall_mem_cons.mpr ⟨xe105 vS, List.forall_mem_cons.mpr ⟨xe106 vS, fun _ h => absurd h List.not_mem_nil⟩⟩⟩⟩⟩
theorem xp19 (vS : Value) : ∀ q ∈ xP19, x_all vS "NotationReaderModel" q.1 q.2 := List.forall_mem_cons.mpr ⟨xe54 vS, List.forall_mem_cons.mpr ⟨xe99 vS, List.forall_mem_cons.mpr ⟨xe100 vS, List.forall_mem_cons.mpr ⟨xe101 vS, List.forall_mem_cons.mpr ⟨xe107 vS, List.forall_mem_cons.mpr ⟨xe108 vS, List.forall_mem_cons.mpr ⟨xe109 vS, List.forall_mem_cons.mpr ⟨xe110 vS, List.forall_mem_cons.mpr ⟨xe111 vS, List.forall_mem_cons.mpr ⟨xe112 vS, List.forall_mem_cons.mpr ⟨xe113 vS, List.forall_mem_cons.mpr ⟨xe114 vS, List.forall_mem_cons.mpr ⟨xe115 vS, List.forall_mem_cons.mpr ⟨xe116 vS, List.forall_mem_cons.mpr ⟨xe117 vS, List.forall_mem_cons.mpr ⟨xe118 vS, List.forall_mem_cons.mpr ⟨xe119 vS, fun _ h => absurd h List.not_mem_nil⟩⟩⟩⟩⟩⟩⟩⟩⟩⟩⟩⟩⟩⟩⟩⟩⟩
theorem xp20 (vS : Value) : ∀ q ∈ xP20, x_all vS "NotationReaderModel" q.1 q.2 := List.forall_mem_cons.mpr ⟨xe90 vS, List.forall_mem_cons.mpr ⟨xe100 vS, List.forall_mem_cons.mpr ⟨xe101 vS, List.forall_mem_cons.mpr ⟨xe108 vS, List.forall_mem_cons.mpr ⟨xe109 vS, List.forall_mem_cons.mpr ⟨xe110 vS, List.forall_mem_cons.mpr ⟨xe112 vS, List.forall_mem_cons.mpr ⟨xe118 vS, List.forall_mem_cons.mpr ⟨xe120 vS, List.forall_mem_cons.mpr ⟨xe121 vS, fun _ h => absurd h List.not_mem_nil⟩⟩⟩⟩⟩⟩⟩⟩⟩⟩
theorem xp21 (vS : Value) : ∀ q ∈ xP21, x_all vS "NotationReaderModel" q.1 q.2 := List.forall_mem_cons.mpr ⟨xe100 vS, List.forall_mem_cons.mpr ⟨xe101 vS, List.forall_mem_cons.mpr ⟨xe108 vS, List.forall_mem_cons.mpr ⟨xe109 vS, List.forall_mem_cons.mpr ⟨xe112 vS, List.forall_mem_cons.mpr ⟨xe122 vS, List.forall_mem_cons.mpr ⟨xe123 vS, List.forall_mem_cons.mpr ⟨xe124 vS, fun _ h => absurd h List.not_mem_nil⟩⟩⟩⟩⟩⟩⟩⟩
theorem xp22 (vS : Value) : ∀ q ∈ xP22, x_all vS "NotationReaderModel" q.1 q.2 := List.forall_mem_cons.mpr ⟨xe100 vS, List.forall_mem_cons.mpr ⟨xe101 vS, List.forall_mem_cons.mpr ⟨xe103 vS, List.forall_mem_cons.mpr ⟨xe104 vS, List.forall_mem_cons.mpr ⟨xe105 vS, List.forall_mem_cons.mpr ⟨xe106 vS, List.forall_mem_cons.mpr ⟨xe109 vS, List.forall_mem_cons.mpr ⟨xe118 vS, fun _ h => absurd h List.not_mem_nil⟩⟩⟩⟩⟩⟩⟩⟩
theorem xp23 (vS : Value) : ∀ q ∈ xP23, x_all vS "NotationReaderModel" q.1 q.2 := List.forall_mem_cons.mpr ⟨xe100 vS, List.forall_mem_cons.mpr ⟨xe101 vS, List.forall_mem_cons.mpr ⟨xe102 vS, List.forall_mem_cons.mpr ⟨xe103 vS, List.forall_mem_cons.mpr ⟨xe104 vS, List.forall_mem_cons.mpr ⟨xe105 vS, List.forall_mem_cons.mpr ⟨xe106 vS, List.forall_mem_cons.mpr ⟨xe109 vS, List.forall_mem_cons.mpr ⟨xe112 vS, List.forall_mem_cons.mpr ⟨xe118 vS, fun _ h => absurd h List.not_mem_nil⟩⟩⟩⟩⟩⟩⟩⟩⟩⟩
theorem xp24 (vS : Value) : ∀ q ∈ xP24, x_all vS "NotationReaderModel" q.1 q.2 := List.forall_mem_cons.mpr ⟨xe109 vS, List.forall_mem_cons.mpr ⟨xe118 vS, List.forall_mem_cons.mpr ⟨xe121 vS, fun _ h => absurd h List.not_mem_nil⟩⟩⟩
theorem xp25 (vS : Value) : ∀ q ∈ xP25, x_all vS "NotationReaderModel" q.1 q.2 := List.forall_mem_cons.mpr ⟨xe125 vS, List.forall_mem_cons.mpr ⟨xe126 vS, fun _ h => absurd h List.not_mem_nil⟩⟩
theorem xp26 (vS : Value) : ∀ q ∈ xP26, x_all vS "NotationReaderModel" q.1 q.2 := List.forall_mem_cons.mpr ⟨xe127 vS, List.forall_mem_cons.mpr ⟨xe128 vS, List.forall_mem_cons.mpr ⟨xe129 vS, fun _ h => absurd h List.not_mem_nil⟩⟩⟩
theorem xp27 (vS : Value) : ∀ q ∈ xP27, x_all vS "NotationReaderModel" q.1 q.2 := List.forall_mem_cons.mpr ⟨xe109 vS, List.forall_mem_cons.mpr ⟨xe118 vS, List.forall_mem_cons.mpr ⟨xe128 vS, List.forall_mem_cons.mpr ⟨xe129 vS, fun _ h => absurd h List.not_mem_nil⟩⟩⟩⟩
theorem xp28 (vS : Value) : ∀ q ∈ xP28, x_all vS "NotationReaderModel" q.1 q.2 := List.forall_mem_cons.mpr ⟨xe53 vS, List.forall_mem_cons.mpr ⟨xe109 vS, List.forall_mem_cons.mpr ⟨xe122 vS, List.forall_mem_cons.mpr ⟨xe127 vS, List.forall_mem_cons.mpr ⟨xe128 vS, List.forall_mem_cons.mpr ⟨xe129 vS, fun _ h => absurd h List.not_mem_nil⟩⟩⟩⟩⟩⟩
theorem xp29 (vS : Value) : ∀ q ∈ xP29, x_all vS "NotationReaderModel" q.1 q.2 := List.forall_mem_cons.mpr ⟨xe45 vS, List.forall_mem_cons.mpr ⟨xe53 vS, List.forall_mem_cons.mpr ⟨xe80 vS, List.forall_mem_cons.mpr ⟨xe81 vS, List.forall_mem_cons.mpr ⟨xe82 vS, List.forall_mem_cons.mpr ⟨xe109 vS, List.forall_mem_cons.mpr ⟨xe127 vS, fun _ h => absurd h List.not_mem_nil⟩⟩⟩⟩⟩⟩⟩
theorem xp30 (vS : Value) : ∀ q ∈ xP30, x_all vS "NotationReaderModel" q.1 q.2 := List.forall_mem_cons.mpr ⟨xe45 vS, List.forall_mem_cons.mpr ⟨xe46 vS, List.forall_mem_cons.mpr ⟨xe52 vS, List.forall_mem_cons.mpr ⟨xe53 vS, List.forall_mem_cons.mpr ⟨xe80 vS, List.forall_mem_cons.mpr ⟨xe81 vS, List.forall_mem_cons.mpr ⟨xe82 vS, List.forall_mem_cons.mpr ⟨xe130 vS, List.forall_mem_cons.mpr ⟨xe108 vS, List.forall_mem_cons.mpr ⟨xe109 vS, List.forall_mem_cons.mpr ⟨xe118 vS, List.forall_mem_cons.mpr ⟨xe127 vS, List.forall_mem_cons.mpr ⟨xe128 vS, List.forall_mem_cons.mpr ⟨xe129 vS, List.forall_mem_cons.mpr ⟨xe131 vS, List.forall_mem_cons.mpr ⟨xe132 vS, List.forall_mem_cons.mpr ⟨xe133 vS, List.forall_mem_cons.mpr ⟨xe134 vS, List.forall_mem_cons.mpr ⟨xe135 vS, List.forall_mem_cons.mpr ⟨xe136 vS, List.forall_mem_cons.mpr ⟨xe137 vS, List.forall_mem_cons.mpr ⟨xe138 vS, List.forall_mem_cons.mpr ⟨xe139 vS, List.forall_mem_cons.mpr ⟨xe140 vS, List.forall_mem_cons.mpr ⟨xe141 vS, List.forall_mem_cons.mpr ⟨xe142 vS, fun _ h => absurd h List.not_mem_nil⟩⟩⟩⟩⟩⟩⟩⟩⟩⟩⟩⟩⟩⟩⟩⟩⟩⟩⟩⟩⟩⟩⟩⟩⟩⟩
theorem xp31 (vS : Value) : ∀ q ∈ xP31, x_all vS "NotationReaderModel" q.1 q.2 := List.forall_mem_cons.mpr ⟨xe128 vS, List.forall_mem_cons.mpr ⟨xe139 vS, fun _ h => absurd h List.not_mem_nil⟩⟩
theorem xp32 (vS : Value) : ∀ q ∈ xP32, x_all vS "NotationReaderModel" q.1 q.2 := List.forall_mem_cons.mpr ⟨xe46 vS, List.forall_mem_cons.mpr ⟨xe51 vS, List.forall_mem_cons.mpr ⟨xe130 vS, List.forall_mem_cons.mpr ⟨xe100 vS, List.forall_mem_cons.mpr ⟨xe108 vS, List.forall_mem_cons.mpr ⟨xe109 vS, List.forall_mem_cons.mpr ⟨xe118 vS, List.forall_mem_cons.mpr ⟨xe119 vS, List.forall_mem_cons.mpr ⟨xe122 vS, List.forall_mem_cons.mpr ⟨xe127 vS, List.forall_mem_cons.mpr ⟨xe129 vS, List.forall_mem_cons.mpr ⟨xe131 vS, List.forall_mem_cons.mpr ⟨xe133 vS, List.forall_mem_cons.mpr ⟨xe135 vS, List.forall_mem_cons.mpr ⟨xe137 vS, List.forall_mem_cons.mpr ⟨xe138 vS, List.forall_mem_cons.mpr ⟨xe143 vS, fun _ h => absurd h List.not_mem_nil⟩⟩⟩⟩⟩⟩⟩⟩⟩⟩⟩⟩⟩⟩⟩⟩⟩
theorem xp33 (vS : Value) : ∀ q ∈ xP33, x_all vS "NotationReaderModel" q.1 q.2 := List.forall_mem_cons.mpr ⟨xe41 vS, List.forall_mem_cons.mpr ⟨xe91 vS, List.forall_mem_cons.mpr ⟨xe92 vS, List.forall_mem_cons.mpr ⟨xe93 vS, List.forall_mem_cons.mpr ⟨xe94 vS, List.forall_mem_cons.mpr ⟨xe95 vS, List.forall_mem_cons.mpr ⟨xe96 vS, List.forall_mem_cons.mpr ⟨xe97 vS, List.forall_mem_cons.mpr ⟨xe144 vS, fun _ h => absurd h List.not_mem_nil⟩⟩⟩⟩⟩⟩⟩⟩⟩
theorem xp34 (vS : Value) : ∀ q ∈ xP34, x_all vS "NotationReaderModel" q.1 q.2 := List.forall_mem_cons.mpr ⟨xe134 vS, List.forall_mem_cons.mpr ⟨xe145 vS, List.forall_mem_cons.mpr ⟨xe146 vS, List.forall_mem_cons.mpr ⟨xe147 vS, List.forall_mem_cons.mpr ⟨xe148 vS, List.forall_mem_cons.mpr ⟨xe149 vS, List.forall_mem_cons.mpr ⟨xe150 vS, List.forall_mem_cons.mpr ⟨xe151 vS, List.forall_mem_cons.mpr ⟨xe152 vS, fun _ h => absurd h List.not_mem_nil⟩⟩⟩⟩⟩⟩⟩⟩⟩
theorem xp35 (vS : Value) : ∀ q ∈ xP35, x_all vS "NotationReaderModel" q.1 q.2 := List.forall_mem_cons.mpr ⟨xe39 vS, List.forall_mem_cons.mpr ⟨xe98 vS, List.forall_mem_cons.mpr ⟨xe99 vS, List.forall_mem_cons.mpr ⟨xe153 vS, fun _ h => absurd h List.not_mem_nil⟩⟩⟩⟩
theorem xp36 (vS : Value) : ∀ q ∈ xP36, x_all vS "NotationReaderModel" q.1 q.2 := List.forall_mem_cons.mpr ⟨xe98 vS, List.forall_mem_cons.mpr ⟨xe99 vS, List.forall_mem_cons.mpr ⟨xe153 vS, fun _ h => absurd h List.not_mem_nil⟩⟩⟩
theorem xp37 (vS : Value) : ∀ q ∈ xP37, x_all vS "NotationReaderModel" q.1 q.2 := List.forall_mem_cons.mpr ⟨xe40 vS, List.forall_mem_cons.mpr ⟨xe98 vS, List.forall_mem_cons.mpr ⟨xe99 vS, List.forall_mem_cons.mpr ⟨xe100 vS, List.forall_mem_cons.mpr ⟨xe108 vS, List.forall_mem_cons.mpr ⟨xe109 vS, List.forall_mem_cons.mpr ⟨xe154 vS, List.forall_mem_cons.mpr ⟨xe128 vS, List.forall_mem_cons.mpr ⟨xe129 vS, List.forall_mem_cons.mpr ⟨xe137 vS, List.forall_mem_cons.mpr ⟨xe139 vS, List.forall_mem_cons.mpr ⟨xe144 vS, List.forall_mem_cons.mpr ⟨xe150 vS, fun _ h => absurd h List.not_mem_nil⟩⟩⟩⟩⟩⟩⟩⟩⟩⟩⟩⟩⟩
theorem xp38 (vS : Value) : ∀ q ∈ xP38, x_all vS "NotationReaderModel" q.1 q.2 := List.forall_mem_cons.mpr ⟨xe40 vS, List.forall_mem_cons.mpr ⟨xe98 vS, fun _ h => absurd h List.not_mem_nil⟩⟩
theorem xp39 (vS : Value) : ∀ q ∈ xP39, x_all vS "NotationReaderModel" q.1 q.2 := List.forall_mem_cons.mpr ⟨xe144 vS, fun _ h => absurd h List.not_mem_nil⟩
theorem xp40 (vS : Value) : ∀ q ∈ xP40, x_all vS "NotationReaderModel" q.1 q.2 := List.forall_mem_cons.mpr ⟨xe92 vS, List.forall_mem_cons.mpr ⟨xe93 vS, List.forall_mem_cons.mpr ⟨xe116 vS, List.forall_mem_cons.mpr ⟨xe134 vS, fun _ h => absurd h List.not_mem_nil⟩⟩⟩⟩
theorem xp41 (vS : Value) : ∀ q ∈ xP41, x_all vS "NotationReaderModel" q.1 q.2 := List.forall_mem_cons.mpr ⟨xe93 vS, List.forall_mem_cons.mpr ⟨xe94 vS, List.forall_mem_cons.mpr ⟨xe95 vS, List.forall_mem_cons.mpr ⟨xe98 vS, List.forall_mem_cons.mpr ⟨xe153 vS, List.forall_mem_cons.mpr ⟨xe155 vS, List.forall_mem_cons.mpr ⟨xe156 vS, fun _ h => absurd h List.not_mem_nil⟩⟩⟩⟩⟩⟩⟩
theorem xp42 (vS : Value) : ∀ q ∈ xP42, x_all vS "NotationReaderModel" q.1 q.2 := List.forall_mem_cons.mpr ⟨xe95 vS, List.forall_mem_cons.mpr ⟨xe96 vS, List.forall_mem_cons.mpr ⟨xe98 vS, List.forall_mem_cons.mpr ⟨xe153 vS, List.forall_mem_cons.mpr ⟨xe155 vS, fun _ h => absurd h List.not_mem_nil⟩⟩⟩⟩⟩
theorem xp43 (vS : Value) : ∀ q ∈ xP43, x_all vS "NotationReaderModel" q.1 q.2 := List.forall_mem_cons.mpr ⟨xe92 vS, List.forall_mem_cons.mpr ⟨xe93 vS, List.forall_mem_cons.mpr ⟨xe98 vS, List.forall_mem_cons.mpr ⟨xe133 vS, List.forall_mem_cons.mpr ⟨xe153 vS, List.forall_mem_cons.mpr ⟨xe155 vS, fun _ h => absurd h List.not_mem_nil⟩⟩⟩⟩⟩⟩
theorem xp44 (vS : Value) : ∀ q ∈ xP44, x_all vS "NotationReaderModel" q.1 q.2 := List.forall_mem_cons.mpr ⟨xe92 vS, List.forall_mem_cons.mpr ⟨xe98 vS, List.forall_mem_cons.mpr ⟨xe117 vS, List.forall_mem_cons.mpr ⟨xe134 vS, List.forall_mem_cons.mpr ⟨xe153 vS, List.forall_mem_cons.mpr ⟨xe155 vS, List.forall_mem_cons.mpr ⟨xe156 vS, fun _ h => absurd h List.not_mem_nil⟩⟩⟩⟩⟩⟩⟩
theorem xp45 (vS : Value) : ∀ q ∈ xP45, x_all vS "NotationReaderModel" q.1 q.2 := List.forall_mem_cons.mpr ⟨xe97 vS, List.forall_mem_cons.mpr ⟨xe98 vS, List.forall_mem_cons.mpr ⟨xe121 vS, List.forall_mem_cons.mpr ⟨xe153 vS, List.forall_mem_cons.mpr ⟨xe155 vS, fun _ h => absurd h List.not_mem_nil⟩⟩⟩⟩⟩
theorem xp46 (vS : Value) : ∀ q ∈ xP46, x_all vS "NotationReaderModel" q.1 q.2 := List.forall_mem_cons.mpr ⟨xe98 vS, List.forall_mem_cons.mpr ⟨xe99 vS, List.forall_mem_cons.mpr ⟨xe144 vS, List.forall_mem_cons.mpr ⟨xe153 vS, fun _ h => absurd h List.not_mem_nil⟩⟩⟩⟩
theorem xp47 (vS : Value) : ∀ q ∈ xP47, x_all vS "NotationReaderModel$Value" q.1 q.2 := List.forall_mem_cons.mpr ⟨xe157 vS, List.forall_mem_cons.mpr ⟨xe158 vS, List.forall_mem_cons.mpr ⟨xe159 vS, List.forall_mem_cons.mpr ⟨xe160 vS, List.forall_mem_cons.mpr ⟨xe161 vS, List.forall_mem_cons.mpr ⟨xe162 vS, List.forall_mem_cons.mpr ⟨xe163 vS, List.forall_mem_cons.mpr ⟨xe164 vS, fun _ h => absurd h List.not_mem_nil⟩⟩⟩⟩⟩⟩⟩⟩
theorem xp48 (vS : Value) : ∀ q ∈ xP48, x_all vS "NotationReaderModel$Value" q.1 q.2 := List.forall_mem_cons.mpr ⟨xe158 vS, List.forall_mem_cons.mpr ⟨xe159 vS, List.forall_mem_cons.mpr ⟨xe160 vS, List.forall_mem_cons.mpr ⟨xe161 vS, List.forall_mem_cons.mpr ⟨xe162 vS, List.forall_mem_cons.mpr ⟨xe165 vS, fun _ h => absurd h List.not_mem_nil⟩⟩⟩⟩⟩⟩
theorem xp49 (vS : Value) : ∀ q ∈ xP49, x_all vS "java/util/ArrayList" q.1 q.2 := List.forall_mem_cons.mpr ⟨xe166 vS, List.forall_mem_cons.mpr ⟨xe167 vS, List.forall_mem_cons.mpr ⟨xe168 vS, fun _ h => absurd h List.not_mem_nil⟩⟩⟩
theorem xp50 (vS : Value) : ∀ q ∈ xP50, x_all vS "java/util/ArrayList" q.1 q.2 := List.forall_mem_cons.mpr ⟨xe167 vS, List.forall_mem_cons.mpr ⟨xe169 vS, List.forall_mem_cons.mpr ⟨xe170 vS, List.forall_mem_cons.mpr ⟨xe171 vS, fun _ h => absurd h List.not_mem_nil⟩⟩⟩⟩
theorem xp51 (vS : Value) : ∀ q ∈ xP51, x_all vS "java/util/ArrayList" q.1 q.2 := List.forall_mem_cons.mpr ⟨xe169 vS, List.forall_mem_cons.mpr ⟨xe172 vS, fun _ h => absurd h List.not_mem_nil⟩⟩
theorem xp52 (vS : Value) : ∀ q ∈ xP52, x_all vS "java/util/ArrayList" q.1 q.2 := List.forall_mem_cons.mpr ⟨xe169 vS, List.forall_mem_cons.mpr ⟨xe173 vS, fun _ h => absurd h List.not_mem_nil⟩⟩
theorem xp53 (vS : Value) : ∀ q ∈ xP53, x_all vS "java/util/ArrayList" q.1 q.2 := List.forall_mem_cons.mpr ⟨xe174 vS, List.forall_mem_cons.mpr ⟨xe167 vS, List.forall_mem_cons.mpr ⟨xe168 vS, List.forall_mem_cons.mpr ⟨xe175 vS, List.forall_mem_cons.mpr ⟨xe176 vS, List.forall_mem_cons.mpr ⟨xe177 vS, fun _ h => absurd h List.not_mem_nil⟩⟩⟩⟩⟩⟩
theorem xp54 (vS : Value) : ∀ q ∈ xP54, x_all vS "java/util/ArrayList" q.1 q.2 := List.forall_mem_cons.mpr ⟨xe167 vS, List.forall_mem_cons.mpr ⟨xe169 vS, List.forall_mem_cons.mpr ⟨xe170 vS, fun _ h => absurd h List.not_mem_nil⟩⟩⟩
theorem xp55 (vS : Value) : ∀ q ∈ xP55, x_all vS "java/util/ArrayList" q.1 q.2 := List.forall_mem_cons.mpr ⟨xe169 vS, List.forall_mem_cons.mpr ⟨xe178 vS, List.forall_mem_cons.mpr ⟨xe179 vS, fun _ h => absurd h List.not_mem_nil⟩⟩⟩
theorem xp56 (vS : Value) : ∀ q ∈ xP56, x_all vS "java/util/ArrayList" q.1 q.2 := List.forall_mem_cons.mpr ⟨xe167 vS, fun _ h => absurd h List.not_mem_nil⟩
theorem xp57 (vS : Value) : ∀ q ∈ xP57, x_all vS "java/util/ArrayList" q.1 q.2 := List.forall_mem_cons.mpr ⟨xe169 vS, fun _ h => absurd h List.not_mem_nil⟩
theorem xp58 (vS : Value) : ∀ q ∈ xP58, x_all vS "java/util/AbstractList" q.1 q.2 := List.forall_mem_cons.mpr ⟨xe180 vS, List.forall_mem_cons.mpr ⟨xe181 vS, fun _ h => absurd h List.not_mem_nil⟩⟩
theorem xp59 (vS : Value) : ∀ q ∈ xP59, x_all vS "java/util/AbstractCollection" q.1 q.2 := List.forall_mem_cons.mpr ⟨xe182 vS, fun _ h => absurd h List.not_mem_nil⟩
theorem xp60 (vS : Value) : ∀ q ∈ xP60, x_all vS "jdk/internal/util/ArraysSupport" q.1 q.2 := List.forall_mem_cons.mpr ⟨xe183 vS, List.forall_mem_cons.mpr ⟨xe184 vS, fun _ h => absurd h List.not_mem_nil⟩⟩
theorem xp61 (vS : Value) : ∀ q ∈ xP61, x_all vS "java/util/Arrays" q.1 q.2 := List.forall_mem_cons.mpr ⟨xe185 vS, List.forall_mem_cons.mpr ⟨xe186 vS, fun _ h => absurd h List.not_mem_nil⟩⟩
theorem xp62 (vS : Value) : ∀ q ∈ xP62, x_all vS "java/util/Arrays" q.1 q.2 := List.forall_mem_cons.mpr ⟨xe187 vS, List.forall_mem_cons.mpr ⟨xe188 vS, List.forall_mem_cons.mpr ⟨xe189 vS, List.forall_mem_cons.mpr ⟨xe190 vS, fun _ h => absurd h List.not_mem_nil⟩⟩⟩⟩
theorem xp63 (vS : Value) : ∀ q ∈ xP63, x_all vS "java/util/Arrays" q.1 q.2 := List.forall_mem_cons.mpr ⟨xe189 vS, List.forall_mem_cons.mpr ⟨xe190 vS, List.forall_mem_cons.mpr ⟨xe191 vS, List.forall_mem_cons.mpr ⟨xe192 vS, fun _ h => absurd h List.not_mem_nil⟩⟩⟩⟩
theorem xp64 (vS : Value) : ∀ q ∈ xP64, x_all vS "java/util/Arrays" q.1 q.2 := List.forall_mem_cons.mpr ⟨xe191 vS, List.forall_mem_cons.mpr ⟨xe192 vS, List.forall_mem_cons.mpr ⟨xe193 vS, fun _ h => absurd h List.not_mem_nil⟩⟩⟩
theorem xp65 (vS : Value) : ∀ q ∈ xP65, x_all vS "java/util/Arrays" q.1 q.2 := List.forall_mem_cons.mpr ⟨xe189 vS, List.forall_mem_cons.mpr ⟨xe190 vS, List.forall_mem_cons.mpr ⟨xe194 vS, fun _ h => absurd h List.not_mem_nil⟩⟩⟩
theorem xp66 (vS : Value) : ∀ q ∈ xP66, x_all vS "java/util/Arrays" q.1 q.2 := List.forall_mem_cons.mpr ⟨xe195 vS, List.forall_mem_cons.mpr ⟨xe196 vS, List.forall_mem_cons.mpr ⟨xe197 vS, List.forall_mem_cons.mpr ⟨xe198 vS, List.forall_mem_cons.mpr ⟨xe199 vS, List.forall_mem_cons.mpr ⟨xe200 vS, fun _ h => absurd h List.not_mem_nil⟩⟩⟩⟩⟩⟩
theorem xp67 (vS : Value) : ∀ q ∈ xP67, x_all vS "java/lang/Math" q.1 q.2 := fun _ h => absurd h List.not_mem_nil
theorem xp68 (vS : Value) : ∀ q ∈ xP68, x_all vS "java/lang/Math" q.1 q.2 := fun _ h => absurd h List.not_mem_nil
theorem xp69 (vS : Value) : ∀ q ∈ xP69, x_all vS "java/util/Objects" q.1 q.2 := List.forall_mem_cons.mpr ⟨xe201 vS, fun _ h => absurd h List.not_mem_nil⟩
theorem xp70 (vS : Value) : ∀ q ∈ xP70, x_all vS "jdk/internal/util/Preconditions" q.1 q.2 := fun _ h => absurd h List.not_mem_nil
theorem xp71 (vS : Value) : ∀ q ∈ xP71, x_all vS "java/lang/String" q.1 q.2 := List.forall_mem_cons.mpr ⟨xe202 vS, List.forall_mem_cons.mpr ⟨xe203 vS, fun _ h => absurd h List.not_mem_nil⟩⟩
theorem xp72 (vS : Value) : ∀ q ∈ xP72, x_all vS "java/lang/String" q.1 q.2 := List.forall_mem_cons.mpr ⟨xe204 vS, List.forall_mem_cons.mpr ⟨xe205 vS, fun _ h => absurd h List.not_mem_nil⟩⟩
theorem xp73 (vS : Value) : ∀ q ∈ xP73, x_all vS "java/lang/String" q.1 q.2 := List.forall_mem_cons.mpr ⟨xe204 vS, List.forall_mem_cons.mpr ⟨xe205 vS, fun _ h => absurd h List.not_mem_nil⟩⟩
theorem xp74 (vS : Value) : ∀ q ∈ xP74, x_all vS "java/lang/String" q.1 q.2 := List.forall_mem_cons.mpr ⟨xe202 vS, List.forall_mem_cons.mpr ⟨xe206 vS, List.forall_mem_cons.mpr ⟨xe207 vS, fun _ h => absurd h List.not_mem_nil⟩⟩⟩
theorem xp75 (vS : Value) : ∀ q ∈ xP75 vS, x_all vS "java/lang/String" q.1 q.2 := List.forall_mem_cons.mpr ⟨xe208 vS, List.forall_mem_cons.mpr ⟨xe209 vS, fun _ h => absurd h List.not_mem_nil⟩⟩
theorem xp76 (vS : Value) : ∀ q ∈ xP76, x_all vS "java/lang/String" q.1 q.2 := List.forall_mem_cons.mpr ⟨xe202 vS, List.forall_mem_cons.mpr ⟨xe210 vS, List.forall_mem_cons.mpr ⟨xe204 vS, List.forall_mem_cons.mpr ⟨xe205 vS, List.forall_mem_cons.mpr ⟨xe211 vS, fun _ h => absurd h List.not_mem_nil⟩⟩⟩⟩⟩
theorem xp77 (vS : Value) : ∀ q ∈ xP77, x_all vS "java/lang/String" q.1 q.2 := List.forall_mem_cons.mpr ⟨xe212 vS, fun _ h => absurd h List.not_mem_nil⟩
theorem xp78 (vS : Value) : ∀ q ∈ xP78, x_all vS "java/lang/String" q.1 q.2 := List.forall_mem_cons.mpr ⟨xe213 vS, List.forall_mem_cons.mpr ⟨xe202 vS, List.forall_mem_cons.mpr ⟨xe204 vS, List.forall_mem_cons.mpr ⟨xe205 vS, List.forall_mem_cons.mpr ⟨xe214 vS, List.forall_mem_cons.mpr ⟨xe215 vS, List.forall_mem_cons.mpr ⟨xe216 vS, List.forall_mem_cons.mpr ⟨xe217 vS, List.forall_mem_cons.mpr ⟨xe218 vS, fun _ h => absurd h List.not_mem_nil⟩⟩⟩⟩⟩⟩⟩⟩⟩
theorem xp79 (vS : Value) : ∀ q ∈ xP79, x_all vS "java/lang/StringLatin1" q.1 q.2 := List.forall_mem_cons.mpr ⟨xe219 vS, fun _ h => absurd h List.not_mem_nil⟩
theorem xp80 (vS : Value) : ∀ q ∈ xP80, x_all vS "java/lang/StringLatin1" q.1 q.2 := fun _ h => absurd h List.not_mem_nil
theorem xp81 (vS : Value) : ∀ q ∈ xP81, x_all vS "java/lang/StringLatin1" q.1 q.2 := fun _ h => absurd h List.not_mem_nil
theorem xp82 (vS : Value) : ∀ q ∈ xP82, x_all vS "java/lang/StringBuilder" q.1 q.2 := List.forall_mem_cons.mpr ⟨xe220 vS, fun _ h => absurd h List.not_mem_nil⟩
theorem xp83 (vS : Value) : ∀ q ∈ xP83, x_all vS "java/lang/StringBuilder" q.1 q.2 := List.forall_mem_cons.mpr ⟨xe221 vS, fun _ h => absurd h List.not_mem_nil⟩
theorem xp84 (vS : Value) : ∀ q ∈ xP84, x_all vS "java/lang/StringBuilder" q.1 q.2 := List.forall_mem_cons.mpr ⟨xe222 vS, List.forall_mem_cons.mpr ⟨xe223 vS, fun _ h => absurd h List.not_mem_nil⟩⟩
theorem xp85 (vS : Value) : ∀ q ∈ xP85, x_all vS "java/lang/StringBuilder" q.1 q.2 := List.forall_mem_cons.mpr ⟨xe224 vS, fun _ h => absurd h List.not_mem_nil⟩
theorem xp86 (vS : Value) : ∀ q ∈ xP86, x_all vS "java/lang/AbstractStringBuilder" q.1 q.2 := List.forall_mem_cons.mpr ⟨xe225 vS, List.forall_mem_cons.mpr ⟨xe226 vS, List.forall_mem_cons.mpr ⟨xe227 vS, List.forall_mem_cons.mpr ⟨xe228 vS, fun _ h => absurd h List.not_mem_nil⟩⟩⟩⟩
theorem xp87 (vS : Value) : ∀ q ∈ xP87, x_all vS "java/lang/AbstractStringBuilder" q.1 q.2 := List.forall_mem_cons.mpr ⟨xe226 vS, List.forall_mem_cons.mpr ⟨xe229 vS, List.forall_mem_cons.mpr ⟨xe230 vS, List.forall_mem_cons.mpr ⟨xe231 vS, List.forall_mem_cons.mpr ⟨xe232 vS, fun _ h => absurd h List.not_mem_nil⟩⟩⟩⟩⟩
theorem xp88 (vS : Value) : ∀ q ∈ xP88, x_all vS "java/lang/AbstractStringBuilder" q.1 q.2 := List.forall_mem_cons.mpr ⟨xe226 vS, List.forall_mem_cons.mpr ⟨xe228 vS, List.forall_mem_cons.mpr ⟨xe233 vS, List.forall_mem_cons.mpr ⟨xe234 vS, fun _ h => absurd h List.not_mem_nil⟩⟩⟩⟩
theorem xp89 (vS : Value) : ∀ q ∈ xP89, x_all vS "java/lang/AbstractStringBuilder" q.1 q.2 := List.forall_mem_cons.mpr ⟨xe226 vS, List.forall_mem_cons.mpr ⟨xe228 vS, List.forall_mem_cons.mpr ⟨xe235 vS, List.forall_mem_cons.mpr ⟨xe236 vS, fun _ h => absurd h List.not_mem_nil⟩⟩⟩⟩
theorem xp90 (vS : Value) : ∀ q ∈ xP90, x_all vS "java/lang/AbstractStringBuilder" q.1 q.2 := List.forall_mem_cons.mpr ⟨xe227 vS, List.forall_mem_cons.mpr ⟨xe228 vS, fun _ h => absurd h List.not_mem_nil⟩⟩
theorem xp91 (vS : Value) : ∀ q ∈ xP91, x_all vS "java/lang/AbstractStringBuilder" q.1 q.2 := List.forall_mem_cons.mpr ⟨xe226 vS, fun _ h => absurd h List.not_mem_nil⟩
theorem xp92 (vS : Value) : ∀ q ∈ xP92, x_all vS "java/lang/AbstractStringBuilder" q.1 q.2 := List.forall_mem_cons.mpr ⟨xe229 vS, fun _ h => absurd h List.not_mem_nil⟩
theorem xp93 (vS : Value) : ∀ q ∈ xP93, x_all vS "NotationReader" q.1 q.2 := List.forall_mem_cons.mpr ⟨xe237 vS, List.forall_mem_cons.mpr ⟨xe238 vS, List.forall_mem_cons.mpr ⟨xe239 vS, List.forall_mem_cons.mpr ⟨xe240 vS, List.forall_mem_cons.mpr ⟨xe241 vS, List.forall_mem_cons.mpr ⟨xe242 vS, List.forall_mem_cons.mpr ⟨xe243 vS, List.forall_mem_cons.mpr ⟨xe244 vS, fun _ h => absurd h List.not_mem_nil⟩⟩⟩⟩⟩⟩⟩⟩
theorem xp94 (vS : Value) : ∀ q ∈ xP94, x_all vS "NotationReader" q.1 q.2 := List.forall_mem_cons.mpr ⟨xe240 vS, List.forall_mem_cons.mpr ⟨xe245 vS, List.forall_mem_cons.mpr ⟨xe246 vS, List.forall_mem_cons.mpr ⟨xe247 vS, List.forall_mem_cons.mpr ⟨xe248 vS, List.forall_mem_cons.mpr ⟨xe249 vS, fun _ h => absurd h List.not_mem_nil⟩⟩⟩⟩⟩⟩
theorem xp95 (vS : Value) : ∀ q ∈ xP95, x_all vS "NotationReader" q.1 q.2 := List.forall_mem_cons.mpr ⟨xe240 vS, List.forall_mem_cons.mpr ⟨xe245 vS, List.forall_mem_cons.mpr ⟨xe250 vS, List.forall_mem_cons.mpr ⟨xe251 vS, List.forall_mem_cons.mpr ⟨xe252 vS, fun _ h => absurd h List.not_mem_nil⟩⟩⟩⟩⟩
theorem xp96 (vS : Value) : ∀ q ∈ xP96, x_all vS "NotationReader" q.1 q.2 := List.forall_mem_cons.mpr ⟨xe240 vS, List.forall_mem_cons.mpr ⟨xe243 vS, List.forall_mem_cons.mpr ⟨xe244 vS, List.forall_mem_cons.mpr ⟨xe245 vS, List.forall_mem_cons.mpr ⟨xe253 vS, List.forall_mem_cons.mpr ⟨xe254 vS, List.forall_mem_cons.mpr ⟨xe255 vS, List.forall_mem_cons.mpr ⟨xe256 vS, List.forall_mem_cons.mpr ⟨xe257 vS, fun _ h => absurd h List.not_mem_nil⟩⟩⟩⟩⟩⟩⟩⟩⟩
theorem xp97 (vS : Value) : ∀ q ∈ xP97, x_all vS "NotationReader" q.1 q.2 := List.forall_mem_cons.mpr ⟨xe244 vS, fun _ h => absurd h List.not_mem_nil⟩
theorem xp98 (vS : Value) : ∀ q ∈ xP98, x_all vS "NotationReader" q.1 q.2 := List.forall_mem_cons.mpr ⟨xe250 vS, List.forall_mem_cons.mpr ⟨xe252 vS, List.forall_mem_cons.mpr ⟨xe258 vS, List.forall_mem_cons.mpr ⟨xe259 vS, List.forall_mem_cons.mpr ⟨xe260 vS, List.forall_mem_cons.mpr ⟨xe261 vS, List.forall_mem_cons.mpr ⟨xe262 vS, List.forall_mem_cons.mpr ⟨xe263 vS, fun _ h => absurd h List.not_mem_nil⟩⟩⟩⟩⟩⟩⟩⟩
theorem xp99 (vS : Value) : ∀ q ∈ xP99, x_all vS "NotationReader" q.1 q.2 := List.forall_mem_cons.mpr ⟨xe243 vS, List.forall_mem_cons.mpr ⟨xe257 vS, List.forall_mem_cons.mpr ⟨xe258 vS, List.forall_mem_cons.mpr ⟨xe264 vS, List.forall_mem_cons.mpr ⟨xe261 vS, List.forall_mem_cons.mpr ⟨xe265 vS, List.forall_mem_cons.mpr ⟨xe266 vS, List.forall_mem_cons.mpr ⟨xe267 vS, List.forall_mem_cons.mpr ⟨xe268 vS, List.forall_mem_cons.mpr ⟨xe269 vS, fun _ h => absurd h List.not_mem_nil⟩⟩⟩⟩⟩⟩⟩⟩⟩⟩
theorem xp100 (vS : Value) : ∀ q ∈ xP100, x_all vS "NotationReader" q.1 q.2 := List.forall_mem_cons.mpr ⟨xe258 vS, List.forall_mem_cons.mpr ⟨xe259 vS, List.forall_mem_cons.mpr ⟨xe270 vS, List.forall_mem_cons.mpr ⟨xe271 vS, List.forall_mem_cons.mpr ⟨xe272 vS, List.forall_mem_cons.mpr ⟨xe273 vS, fun _ h => absurd h List.not_mem_nil⟩⟩⟩⟩⟩⟩
theorem xp101 (vS : Value) : ∀ q ∈ xP101, x_all vS "NotationReader" q.1 q.2 := List.forall_mem_cons.mpr ⟨xe240 vS, List.forall_mem_cons.mpr ⟨xe258 vS, List.forall_mem_cons.mpr ⟨xe262 vS, List.forall_mem_cons.mpr ⟨xe265 vS, List.forall_mem_cons.mpr ⟨xe267 vS, List.forall_mem_cons.mpr ⟨xe274 vS, List.forall_mem_cons.mpr ⟨xe275 vS, List.forall_mem_cons.mpr ⟨xe276 vS, fun _ h => absurd h List.not_mem_nil⟩⟩⟩⟩⟩⟩⟩⟩
theorem xp102 (vS : Value) : ∀ q ∈ xP102, x_all vS "NotationReader" q.1 q.2 := List.forall_mem_cons.mpr ⟨xe240 vS, List.forall_mem_cons.mpr ⟨xe258 vS, List.forall_mem_cons.mpr ⟨xe270 vS, List.forall_mem_cons.mpr ⟨xe272 vS, List.forall_mem_cons.mpr ⟨xe275 vS, List.forall_mem_cons.mpr ⟨xe276 vS, List.forall_mem_cons.mpr ⟨xe277 vS, List.forall_mem_cons.mpr ⟨xe278 vS, List.forall_mem_cons.mpr ⟨xe279 vS, fun _ h => absurd h List.not_mem_nil⟩⟩⟩⟩⟩⟩⟩⟩⟩
theorem xp103 (vS : Value) : ∀ q ∈ xP103, x_all vS "NotationReader" q.1 q.2 := List.forall_mem_cons.mpr ⟨xe240 vS, List.forall_mem_cons.mpr ⟨xe243 vS, List.forall_mem_cons.mpr ⟨xe245 vS, List.forall_mem_cons.mpr ⟨xe250 vS, List.forall_mem_cons.mpr ⟨xe252 vS, List.forall_mem_cons.mpr ⟨xe257 vS, List.forall_mem_cons.mpr ⟨xe280 vS, fun _ h => absurd h List.not_mem_nil⟩⟩⟩⟩⟩⟩⟩
theorem xp104 (vS : Value) : ∀ q ∈ xP104, x_all vS "NotationReader" q.1 q.2 := List.forall_mem_cons.mpr ⟨xe243 vS, List.forall_mem_cons.mpr ⟨xe250 vS, List.forall_mem_cons.mpr ⟨xe252 vS, List.forall_mem_cons.mpr ⟨xe257 vS, List.forall_mem_cons.mpr ⟨xe264 vS, List.forall_mem_cons.mpr ⟨xe268 vS, List.forall_mem_cons.mpr ⟨xe281 vS, fun _ h => absurd h List.not_mem_nil⟩⟩⟩⟩⟩⟩⟩
theorem xp105 (vS : Value) : ∀ q ∈ xP105, x_all vS "NotationReader" q.1 q.2 := List.forall_mem_cons.mpr ⟨xe240 vS, List.forall_mem_cons.mpr ⟨xe282 vS, List.forall_mem_cons.mpr ⟨xe283 vS, List.forall_mem_cons.mpr ⟨xe284 vS, List.forall_mem_cons.mpr ⟨xe285 vS, List.forall_mem_cons.mpr ⟨xe286 vS, List.forall_mem_cons.mpr ⟨xe287 vS, List.forall_mem_cons.mpr ⟨xe288 vS, List.forall_mem_cons.mpr ⟨xe289 vS, List.forall_mem_cons.mpr ⟨xe290 vS, List.forall_mem_cons.mpr ⟨xe291 vS, fun _ h => absurd h List.not_mem_nil⟩⟩⟩⟩⟩⟩⟩⟩⟩⟩⟩
theorem xp106 (vS : Value) : ∀ q ∈ xP106, x_all vS "NotationReader" q.1 q.2 := List.forall_mem_cons.mpr ⟨xe240 vS, List.forall_mem_cons.mpr ⟨xe255 vS, List.forall_mem_cons.mpr ⟨xe261 vS, List.forall_mem_cons.mpr ⟨xe289 vS, List.forall_mem_cons.mpr ⟨xe290 vS, List.forall_mem_cons.mpr ⟨xe291 vS, List.forall_mem_cons.mpr ⟨xe292 vS, fun _ h => absurd h List.not_mem_nil⟩⟩⟩⟩⟩⟩⟩
theorem xp107 (vS : Value) : ∀ q ∈ xP107, x_all vS "NotationReader" q.1 q.2 := List.forall_mem_cons.mpr ⟨xe240 vS, List.forall_mem_cons.mpr ⟨xe256 vS, List.forall_mem_cons.mpr ⟨xe273 vS, List.forall_mem_cons.mpr ⟨xe282 vS, List.forall_mem_cons.mpr ⟨xe289 vS, List.forall_mem_cons.mpr ⟨xe290 vS, List.forall_mem_cons.mpr ⟨xe293 vS, fun _ h => absurd h List.not_mem_nil⟩⟩⟩⟩⟩⟩⟩
theorem xp108 (vS : Value) : ∀ q ∈ xP108, x_all vS "NotationReader" q.1 q.2 := List.forall_mem_cons.mpr ⟨xe240 vS, List.forall_mem_cons.mpr ⟨xe255 vS, List.forall_mem_cons.mpr ⟨xe256 vS, List.forall_mem_cons.mpr ⟨xe259 vS, List.forall_mem_cons.mpr ⟨xe261 vS, List.forall_mem_cons.mpr ⟨xe282 vS, List.forall_mem_cons.mpr ⟨xe283 vS, List.forall_mem_cons.mpr ⟨xe289 vS, List.forall_mem_cons.mpr ⟨xe290 vS, List.forall_mem_cons.mpr ⟨xe291 vS, List.forall_mem_cons.mpr ⟨xe292 vS, List.forall_mem_cons.mpr ⟨xe294 vS, List.forall_mem_cons.mpr ⟨xe295 vS, List.forall_mem_cons.mpr ⟨xe296 vS, fun _ h => absurd h List.not_mem_nil⟩⟩⟩⟩⟩⟩⟩⟩⟩⟩⟩⟩⟩⟩
theorem xp109 (vS : Value) : ∀ q ∈ xP109, x_all vS "NotationReader" q.1 q.2 := List.forall_mem_cons.mpr ⟨xe240 vS, List.forall_mem_cons.mpr ⟨xe282 vS, List.forall_mem_cons.mpr ⟨xe283 vS, List.forall_mem_cons.mpr ⟨xe285 vS, List.forall_mem_cons.mpr ⟨xe288 vS, fun _ h => absurd h List.not_mem_nil⟩⟩⟩⟩⟩
theorem xp110 (vS : Value) : ∀ q ∈ xP110, x_all vS "NotationReader" q.1 q.2 := List.forall_mem_cons.mpr ⟨xe240 vS, List.forall_mem_cons.mpr ⟨xe261 vS, List.forall_mem_cons.mpr ⟨xe282 vS, List.forall_mem_cons.mpr ⟨xe283 vS, List.forall_mem_cons.mpr ⟨xe289 vS, List.forall_mem_cons.mpr ⟨xe290 vS, fun _ h => absurd h List.not_mem_nil⟩⟩⟩⟩⟩⟩
theorem xp111 (vS : Value) : ∀ q ∈ xP111, x_all vS "NotationReader" q.1 q.2 := List.forall_mem_cons.mpr ⟨xe240 vS, List.forall_mem_cons.mpr ⟨xe256 vS, List.forall_mem_cons.mpr ⟨xe261 vS, List.forall_mem_cons.mpr ⟨xe289 vS, List.forall_mem_cons.mpr ⟨xe290 vS, fun _ h => absurd h List.not_mem_nil⟩⟩⟩⟩⟩
theorem xp112 (vS : Value) : ∀ q ∈ xP112, x_all vS "NotationReader" q.1 q.2 := fun _ h => absurd h List.not_mem_nil
theorem xp113 (vS : Value) : ∀ q ∈ xP113, x_all vS "NotationReader" q.1 q.2 := List.forall_mem_cons.mpr ⟨xe240 vS, List.forall_mem_cons.mpr ⟨xe243 vS, List.forall_mem_cons.mpr ⟨xe297 vS, List.forall_mem_cons.mpr ⟨xe282 vS, List.forall_mem_cons.mpr ⟨xe292 vS, List.forall_mem_cons.mpr ⟨xe298 vS, List.forall_mem_cons.mpr ⟨xe299 vS, fun _ h => absurd h List.not_mem_nil⟩⟩⟩⟩⟩⟩⟩
theorem xp114 (vS : Value) : ∀ q ∈ xP114, x_all vS "NotationReader" q.1 q.2 := List.forall_mem_cons.mpr ⟨xe243 vS, List.forall_mem_cons.mpr ⟨xe257 vS, List.forall_mem_cons.mpr ⟨xe269 vS, fun _ h => absurd h List.not_mem_nil⟩⟩⟩
theorem xp115 (vS : Value) : ∀ q ∈ xP115, x_all vS "NotationReader" q.1 q.2 := List.forall_mem_cons.mpr ⟨xe240 vS, List.forall_mem_cons.mpr ⟨xe282 vS, List.forall_mem_cons.mpr ⟨xe283 vS, List.forall_mem_cons.mpr ⟨xe291 vS, fun _ h => absurd h List.not_mem_nil⟩⟩⟩⟩
theorem xp116 (vS : Value) : ∀ q ∈ xP116, x_all vS "NotationReader" q.1 q.2 := List.forall_mem_cons.mpr ⟨xe240 vS, List.forall_mem_cons.mpr ⟨xe243 vS, List.forall_mem_cons.mpr ⟨xe244 vS, List.forall_mem_cons.mpr ⟨xe245 vS, List.forall_mem_cons.mpr ⟨xe253 vS, List.forall_mem_cons.mpr ⟨xe270 vS, List.forall_mem_cons.mpr ⟨xe272 vS, List.forall_mem_cons.mpr ⟨xe282 vS, List.forall_mem_cons.mpr ⟨xe300 vS, List.forall_mem_cons.mpr ⟨xe301 vS, fun _ h => absurd h List.not_mem_nil⟩⟩⟩⟩⟩⟩⟩⟩⟩⟩
theorem xp117 (vS : Value) : ∀ q ∈ xP117, x_all vS "NotationReader$Node" q.1 q.2 := List.forall_mem_cons.mpr ⟨xe302 vS, List.forall_mem_cons.mpr ⟨xe303 vS, List.forall_mem_cons.mpr ⟨xe304 vS, List.forall_mem_cons.mpr ⟨xe305 vS, List.forall_mem_cons.mpr ⟨xe306 vS, List.forall_mem_cons.mpr ⟨xe307 vS, List.forall_mem_cons.mpr ⟨xe308 vS, List.forall_mem_cons.mpr ⟨xe309 vS, List.forall_mem_cons.mpr ⟨xe310 vS, List.forall_mem_cons.mpr ⟨xe311 vS, fun _ h => absurd h List.not_mem_nil⟩⟩⟩⟩⟩⟩⟩⟩⟩⟩
theorem xp118 (vS : Value) : ∀ q ∈ xP118, x_all vS "NotationReader$Node" q.1 q.2 := List.forall_mem_cons.mpr ⟨xe303 vS, List.forall_mem_cons.mpr ⟨xe309 vS, fun _ h => absurd h List.not_mem_nil⟩⟩
theorem xp119 (vS : Value) : ∀ q ∈ xP119, x_all vS "NotationReader$Node" q.1 q.2 := List.forall_mem_cons.mpr ⟨xe303 vS, fun _ h => absurd h List.not_mem_nil⟩
theorem xp120 (vS : Value) : ∀ q ∈ xP120, x_all vS "NotationReader$Token" q.1 q.2 := List.forall_mem_cons.mpr ⟨xe312 vS, List.forall_mem_cons.mpr ⟨xe313 vS, fun _ h => absurd h List.not_mem_nil⟩⟩
theorem xp121 (vS : Value) : ∀ q ∈ xP121, x_all vS "NotationReader$Token" q.1 q.2 := List.forall_mem_cons.mpr ⟨xe313 vS, List.forall_mem_cons.mpr ⟨xe314 vS, fun _ h => absurd h List.not_mem_nil⟩⟩
theorem xp122 (vS : Value) : ∀ q ∈ xP122, x_all vS "NotationReader$Tape" q.1 q.2 := List.forall_mem_cons.mpr ⟨xe315 vS, List.forall_mem_cons.mpr ⟨xe316 vS, List.forall_mem_cons.mpr ⟨xe317 vS, List.forall_mem_cons.mpr ⟨xe318 vS, List.forall_mem_cons.mpr ⟨xe319 vS, List.forall_mem_cons.mpr ⟨xe320 vS, List.forall_mem_cons.mpr ⟨xe321 vS, fun _ h => absurd h List.not_mem_nil⟩⟩⟩⟩⟩⟩⟩
theorem xp123 (vS : Value) : ∀ q ∈ xP123, x_all vS "NotationReader$Tape" q.1 q.2 := List.forall_mem_cons.mpr ⟨xe316 vS, List.forall_mem_cons.mpr ⟨xe322 vS, fun _ h => absurd h List.not_mem_nil⟩⟩
theorem xp124 (vS : Value) : ∀ q ∈ xP124, x_all vS "NotationReader$Tape" q.1 q.2 := List.forall_mem_cons.mpr ⟨xe317 vS, fun _ h => absurd h List.not_mem_nil⟩
theorem xp125 (vS : Value) : ∀ q ∈ xP125, x_all vS "NotationReader$Tape" q.1 q.2 := List.forall_mem_cons.mpr ⟨xe321 vS, List.forall_mem_cons.mpr ⟨xe323 vS, List.forall_mem_cons.mpr ⟨xe324 vS, List.forall_mem_cons.mpr ⟨xe325 vS, fun _ h => absurd h List.not_mem_nil⟩⟩⟩⟩
theorem xp126 (vS : Value) : ∀ q ∈ xP126, x_all vS "NotationReader$Tape" q.1 q.2 := List.forall_mem_cons.mpr ⟨xe320 vS, List.forall_mem_cons.mpr ⟨xe321 vS, List.forall_mem_cons.mpr ⟨xe322 vS, List.forall_mem_cons.mpr ⟨xe323 vS, List.forall_mem_cons.mpr ⟨xe324 vS, List.forall_mem_cons.mpr ⟨xe326 vS, List.forall_mem_cons.mpr ⟨xe327 vS, List.forall_mem_cons.mpr ⟨xe328 vS, List.forall_mem_cons.mpr ⟨xe329 vS, List.forall_mem_cons.mpr ⟨xe330 vS, List.forall_mem_cons.mpr ⟨xe331 vS, List.forall_mem_cons.mpr ⟨xe332 vS, List.forall_mem_cons.mpr ⟨xe333 vS, List.forall_mem_cons.mpr ⟨xe334 vS, List.forall_mem_cons.mpr ⟨xe335 vS, List.forall_mem_cons.mpr ⟨xe336 vS, List.forall_mem_cons.mpr ⟨xe337 vS, List.forall_mem_cons.mpr ⟨xe338 vS, List.forall_mem_cons.mpr ⟨xe339 vS, fun _ h => absurd h List.not_mem_nil⟩⟩⟩⟩⟩⟩⟩⟩⟩⟩⟩⟩⟩⟩⟩⟩⟩⟩⟩
theorem xp127 (vS : Value) : ∀ q ∈ xP127, x_all vS "NotationReader$Tape" q.1 q.2 := List.forall_mem_cons.mpr ⟨xe322 vS, List.forall_mem_cons.mpr ⟨xe327 vS, List.forall_mem_cons.mpr ⟨xe330 vS, List.forall_mem_cons.mpr ⟨xe331 vS, List.forall_mem_cons.mpr ⟨xe340 vS, List.forall_mem_cons.mpr ⟨xe341 vS, List.forall_mem_cons.mpr ⟨xe342 vS, List.forall_mem_cons.mpr ⟨xe343 vS, List.forall_mem_cons.mpr ⟨xe344 vS, List.forall_mem_cons.mpr ⟨xe345 vS, List.forall_mem_cons.mpr ⟨xe346 vS, fun _ h => absurd h List.not_mem_nil⟩⟩⟩⟩⟩⟩⟩⟩⟩⟩⟩
theorem xp128 (vS : Value) : ∀ q ∈ xP128, x_all vS "NotationReader$Tape" q.1 q.2 := List.forall_mem_cons.mpr ⟨xe323 vS, List.forall_mem_cons.mpr ⟨xe328 vS, List.forall_mem_cons.mpr ⟨xe347 vS, List.forall_mem_cons.mpr ⟨xe348 vS, List.forall_mem_cons.mpr ⟨xe349 vS, fun _ h => absurd h List.not_mem_nil⟩⟩⟩⟩⟩
theorem xp129 (vS : Value) : ∀ q ∈ xP129, x_all vS "NotationReader$Tape" q.1 q.2 := List.forall_mem_cons.mpr ⟨xe322 vS, List.forall_mem_cons.mpr ⟨xe327 vS, List.forall_mem_cons.mpr ⟨xe329 vS, List.forall_mem_cons.mpr ⟨xe330 vS, List.forall_mem_cons.mpr ⟨xe331 vS, List.forall_mem_cons.mpr ⟨xe334 vS, List.forall_mem_cons.mpr ⟨xe350 vS, List.forall_mem_cons.mpr ⟨xe351 vS, fun _ h => absurd h List.not_mem_nil⟩⟩⟩⟩⟩⟩⟩⟩
theorem xp130 (vS : Value) : ∀ q ∈ xP130, x_all vS "NotationReader$Tape" q.1 q.2 := List.forall_mem_cons.mpr ⟨xe322 vS, List.forall_mem_cons.mpr ⟨xe327 vS, List.forall_mem_cons.mpr ⟨xe330 vS, List.forall_mem_cons.mpr ⟨xe331 vS, List.forall_mem_cons.mpr ⟨xe341 vS, fun _ h => absurd h List.not_mem_nil⟩⟩⟩⟩⟩
theorem xp131 (vS : Value) : ∀ q ∈ xP131, x_all vS "NotationReader$Tape" q.1 q.2 := List.forall_mem_cons.mpr ⟨xe326 vS, List.forall_mem_cons.mpr ⟨xe327 vS, List.forall_mem_cons.mpr ⟨xe330 vS, List.forall_mem_cons.mpr ⟨xe331 vS, List.forall_mem_cons.mpr ⟨xe341 vS, List.forall_mem_cons.mpr ⟨xe352 vS, fun _ h => absurd h List.not_mem_nil⟩⟩⟩⟩⟩⟩
theorem xp132 (vS : Value) : ∀ q ∈ xP132, x_all vS "NotationReader$Tape" q.1 q.2 := List.forall_mem_cons.mpr ⟨xe327 vS, List.forall_mem_cons.mpr ⟨xe330 vS, List.forall_mem_cons.mpr ⟨xe331 vS, fun _ h => absurd h List.not_mem_nil⟩⟩⟩
theorem xp133 (vS : Value) : ∀ q ∈ xP133, x_all vS "NotationReader$Tape" q.1 q.2 := List.forall_mem_cons.mpr ⟨xe322 vS, List.forall_mem_cons.mpr ⟨xe331 vS, List.forall_mem_cons.mpr ⟨xe353 vS, fun _ h => absurd h List.not_mem_nil⟩⟩⟩
theorem xp134 (vS : Value) : ∀ q ∈ xP134, x_all vS "NotationReader$Tape" q.1 q.2 := List.forall_mem_cons.mpr ⟨xe317 vS, List.forall_mem_cons.mpr ⟨xe323 vS, fun _ h => absurd h List.not_mem_nil⟩⟩
theorem xp135 (vS : Value) : ∀ q ∈ xP135, x_all vS "NotationReader$Tape" q.1 q.2 := List.forall_mem_cons.mpr ⟨xe316 vS, List.forall_mem_cons.mpr ⟨xe322 vS, fun _ h => absurd h List.not_mem_nil⟩⟩
theorem xp136 (vS : Value) : ∀ q ∈ xP136, x_all vS "NotationReader$Tape" q.1 q.2 := fun _ h => absurd h List.not_mem_nil
theorem xp137 (vS : Value) : ∀ q ∈ xP137, x_all vS "NotationReader$Tape" q.1 q.2 := fun _ h => absurd h List.not_mem_nil
theorem xp138 (vS : Value) : ∀ q ∈ xP138, x_all vS "NotationReader$Tape" q.1 q.2 := fun _ h => absurd h List.not_mem_nil
theorem xp139 (vS : Value) : ∀ q ∈ xP139, x_all vS "NotationReader$Tape" q.1 q.2 := fun _ h => absurd h List.not_mem_nil
theorem xp140 (vS : Value) : ∀ q ∈ xP140, x_all vS "NotationReader$Tape" q.1 q.2 := List.forall_mem_cons.mpr ⟨xe332 vS, List.forall_mem_cons.mpr ⟨xe334 vS, fun _ h => absurd h List.not_mem_nil⟩⟩
theorem xp141 (vS : Value) : ∀ q ∈ xP141, x_all vS "NotationReader$Tape" q.1 q.2 := List.forall_mem_cons.mpr ⟨xe334 vS, fun _ h => absurd h List.not_mem_nil⟩
end
section
/-! what holds as the law begins; made by wip/whole/gen/tables2.py -/
def x_od (b : Nat) (s : State) (w : Nat) : Nat := match (x_trms[w]?).bind (fun t => t.eval #[Value.ref b] s none [] s) with
  | some (.ref a) => a
  | _ => b
def x_nm (w : Nat) : String := if w = 59 then "[Ljava/lang/Object;" else "java/lang/String"
theorem x_odv {b : Nat} {s : State} {w a : Nat} {t : Term} (hw : x_trms[w]? = some t) (ht : t.eval #[Value.ref b] s none [] s = some (.ref a)) : x_od b s w = a := by
  unfold x_od
  rw [hw]
  simp only [Option.bind_some, ht]
theorem x_exb : x_exs.all (fun w => decide (w < x_trms.length) && (flatC x_nar).contains (.exactly ((x_trms[w]?).getD (.arg 0)) (x_nm w))) = true := by decide +kernel
theorem x_odw {b : Nat} {s : State} (h : x_nar.before #[Value.ref b] s = true) {w : Nat} {t : Term} (hw : x_trms[w]? = some t) (hm : w ∈ x_exs) : t.eval #[Value.ref b] s none [] s = some (.ref (x_od b s w)) ∧ x_od b s w < s.heap.size ∧ va_O (x_nm w) (x_od b s w) (fun q => s.heap.size ≤ q) s s.heap := by
  have z := List.all_eq_true.mp x_exb w hm
  simp only [Bool.and_eq_true, decide_eq_true_eq, List.contains_iff_mem, hw, Option.getD_some] at z
  have hex := flat_of_before _ h _ z.2
  obtain ⟨a, c, cell, k, q1, q2, q3, q4, q5, q6, -⟩ := Cond.exactly_spec (args := #[Value.ref b]) (first := s) (o := none) (s := s) (idx := []) hex
  rw [x_odv hw q1]
  exact ⟨q1, (Array.getElem?_eq_some_iff.mp q3).1, va_Oof hex q1 (fun a ha hn => by omega)⟩
theorem x_od0 (b : Nat) (s : State) : x_od b s 0 = b := rfl
/-- a string constant: its words -/
def x_tc (q : Nat × Nat × List Int32) : List Jvm.Cond := [.exactly ((x_trms[q.1]?).getD (.arg 0)) "java/lang/String", .eq (.field ((x_trms[q.1]?).getD (.arg 0)) "java/lang/String" "coder" "B") (.int 0), .arrayOf (.field ((x_trms[q.1]?).getD (.arg 0)) "java/lang/String" "value" "[B") .byte, .eq (.length (.field ((x_trms[q.1]?).getD (.arg 0)) "java/lang/String" "value" "[B")) (.int (Int32.ofNat q.2.2.length))] ++ q.2.2.zipIdx.map (fun z => .eq (.elem (.field ((x_trms[q.1]?).getD (.arg 0)) "java/lang/String" "value" "[B") (.int (Int32.ofNat z.2))) (.int z.1))
theorem x_tcb : (x_tx.zip x_tp).all (fun z => decide (((flatC x_nar).drop z.2).take (4 + z.1.2.2.length) = x_tc z.1)) = true := by decide +kernel
theorem x_ttb : x_tx.all (fun q => decide (x_trms[q.2.1]? = some (.field ((x_trms[q.1]?).getD (.arg 0)) "java/lang/String" "value" "[B")) && decide (q.1 < x_trms.length) && x_exs.contains q.1 && decide (q.1 ≠ 59) && decide (q.2.1 < 4294967296) && decide (q.2.2.length < 2147483648)) = true := by decide +kernel
theorem x_tlen : x_tx.length = x_tp.length := by decide
theorem x_tin {q : Nat × Nat × List Int32} (hq : q ∈ x_tx) : ∀ c ∈ x_tc q, c ∈ flatC x_nar := by
  obtain ⟨i, hi, e⟩ := List.mem_iff_getElem.mp hq
  have hi2 : i < x_tp.length := by rw [← x_tlen]; exact hi
  have hz : (q, x_tp[i]) ∈ x_tx.zip x_tp := by
    rw [← e]
    refine List.mem_iff_getElem.mpr ⟨i, by simp; omega, by simp⟩
  have z := of_decide_eq_true (List.all_eq_true.mp x_tcb _ hz)
  intro c hc
  rw [← z] at hc
  exact List.mem_of_mem_drop (List.mem_of_mem_take hc)
/-- what is known of a string constant -/
theorem x_str {b : Nat} {s : State} (h : x_nar.before #[Value.ref b] s = true) {q : Nat × Nat × List Int32} (hq : q ∈ x_tx) : va_O "java/lang/String" (x_od b s q.1) (fun q => s.heap.size ≤ q) s s.heap ∧ va_OF "java/lang/String" "coder" "B" (.int 0) (x_od b s q.1) (fun q => s.heap.size ≤ q) s s.heap ∧ va_OF "java/lang/String" "value" "[B" (.ref (x_od b s q.2.1)) (x_od b s q.1) (fun q => s.heap.size ≤ q) s s.heap ∧ va_T .byte (x_od b s q.2.1) q.2.2.length (fun j => .int (q.2.2.getD j 0)) (fun q => s.heap.size ≤ q) s s.heap := by
  have z := List.all_eq_true.mp x_ttb q hq
  simp only [Bool.and_eq_true, decide_eq_true_eq, List.contains_iff_mem] at z
  obtain ⟨⟨⟨⟨⟨z1, z2⟩, z3⟩, z4⟩, z5⟩, z6⟩ := z
  have hw : x_trms[q.1]? = some (x_trms[q.1]'z2) := List.getElem?_eq_getElem z2
  have hg : (x_trms[q.1]?).getD (.arg 0) = x_trms[q.1]'z2 := by rw [hw]; rfl
  have hT := x_tin hq
  obtain ⟨a1, a2, a3⟩ := x_odw h hw z3
  have hA : ∀ a : Nat, a < s.heap.size → ¬ s.heap.size ≤ a := fun a ha hn => by omega
  rw [show x_nm q.1 = "java/lang/String" from by unfold x_nm; rw [if_neg z4]] at a3
  have k2 := flat_of_before _ h _ (hT (.eq (.field ((x_trms[q.1]?).getD (.arg 0)) "java/lang/String" "coder" "B") (.int 0)) (by simp [x_tc]))
  have k3 := flat_of_before _ h _ (hT (.arrayOf (.field ((x_trms[q.1]?).getD (.arg 0)) "java/lang/String" "value" "[B") .byte) (by simp [x_tc]))
  have k4 := flat_of_before _ h _ (hT (.eq (.length (.field ((x_trms[q.1]?).getD (.arg 0)) "java/lang/String" "value" "[B")) (.int (Int32.ofNat q.2.2.length))) (by simp [x_tc]))
  have k5 : ∀ j, j < q.2.2.length → (Cond.eq (.elem (.field ((x_trms[q.1]?).getD (.arg 0)) "java/lang/String" "value" "[B") (.int (Int32.ofNat j))) (.int (q.2.2.getD j 0))).before #[Value.ref b] s = true := fun j hj => by
    refine flat_of_before _ h _ (hT _ ?_)
    unfold x_tc
    refine List.mem_append.mpr (Or.inr (List.mem_map.mpr ⟨(q.2.2.getD j 0, j), ?_, rfl⟩))
    rw [List.mem_zipIdx_iff_getElem?]
    show q.2.2[j]? = some (q.2.2.getD j 0)
    rw [List.getD_eq_getElem?_getD, List.getElem?_eq_getElem hj]
    rfl
  rw [hg] at k2 k3 k4 k5 z1
  obtain ⟨t, ht, hTT⟩ := va_Tof (f := fun j => .int (q.2.2.getD j 0)) (A := fun q => s.heap.size ≤ q) (by omega) k3 (va_eqt k4) (fun j hj => va_eqt (k5 j hj)) hA
  rw [x_odv z1 ht]
  exact ⟨a3, vk_OFof a1 (va_eqt k2) hA, vk_OFof a1 ht hA, hTT⟩
end
section
/-! methods: the code tables, the words of a method; made by wip/whole/gen/tables.py -/
def ab_ckb (M : ab_M) : Bool := (my_c M).all fun q => (match decode (my_b M) q.1 with | .ok r => decide (r = (q.2.1, q.2.2.1)) | .error _ => false) && ((ab_len q.2.1 == 0 || q.2.2.1 == ab_len q.2.1) && (match ab_off q.2.1 with | some off => decide ((q.1 : Int) + off = (q.2.2.2 : Int)) | none => true))
theorem ab_ck_of {M : ab_M} (h : ab_ckb M = true) : ab_ck M := by
  intro q hq
  have z := List.all_eq_true.mp h q hq
  simp only [Bool.and_eq_true, Bool.or_eq_true, beq_iff_eq] at z
  obtain ⟨z1, z2, z3⟩ := z
  refine ⟨?_, z2, fun off ho => ?_⟩
  · split at z1
    · rename_i r hr
      rw [hr, of_decide_eq_true z1]
    · cases z1
  · rw [ho] at z3
    exact of_decide_eq_true z3
theorem xk0 (vS : Value) : ab_ck xM0 := ab_ck_of (by decide +kernel)
theorem xk1 (vS : Value) : ab_ck xM1 := ab_ck_of (by decide +kernel)
theorem xk2 (vS : Value) : ab_ck xM2 := ab_ck_of (by decide +kernel)
theorem xk3 (vS : Value) : ab_ck xM3 := ab_ck_of (by decide +kernel)
theorem xk4 (vS : Value) : ab_ck xM4 := ab_ck_of (by decide +kernel)
theorem xk5 (vS : Value) : ab_ck xM5 := ab_ck_of (by decide +kernel)
theorem xk6 (vS : Value) : ab_ck xM6 := ab_ck_of (by decide +kernel)
theorem xk7 (vS : Value) : ab_ck xM7 := ab_ck_of (by decide +kernel)
theorem xk8 (vS : Value) : ab_ck xM8 := ab_ck_of (by decide +kernel)
theorem xk9 (vS : Value) : ab_ck xM9 := ab_ck_of (by decide +kernel)
theorem xk10 (vS : Value) : ab_ck xM10 := ab_ck_of (by decide +kernel)
theorem xk11 (vS : Value) : ab_ck xM11 := ab_ck_of (by decide +kernel)
theorem xk12 (vS : Value) : ab_ck xM12 := ab_ck_of (by decide +kernel)
theorem xk13 (vS : Value) : ab_ck xM13 := ab_ck_of (by decide +kernel)
theorem xk14 (vS : Value) : ab_ck xM14 := ab_ck_of (by decide +kernel)
theorem xk15 (vS : Value) : ab_ck xM15 := ab_ck_of (by decide +kernel)
theorem xk16 (vS : Value) : ab_ck xM16 := ab_ck_of (by decide +kernel)
theorem xk17 (vS : Value) : ab_ck xM17 := ab_ck_of (by decide +kernel)
theorem xk18 (vS : Value) : ab_ck xM18 := ab_ck_of (by decide +kernel)
theorem xk19 (vS : Value) : ab_ck xM19 := ab_ck_of (by decide +kernel)
theorem xk20 (vS : Value) : ab_ck xM20 := ab_ck_of (by decide +kernel)
theorem xk21 (vS : Value) : ab_ck xM21 := ab_ck_of (by decide +kernel)
theorem xk22 (vS : Value) : ab_ck xM22 := ab_ck_of (by decide +kernel)
theorem xk23 (vS : Value) : ab_ck xM23 := ab_ck_of (by decide +kernel)
theorem xk24 (vS : Value) : ab_ck xM24 := ab_ck_of (by decide +kernel)
theorem xk25 (vS : Value) : ab_ck xM25 := ab_ck_of (by decide +kernel)
theorem xk26 (vS : Value) : ab_ck xM26 := ab_ck_of (by decide +kernel)
theorem xk27 (vS : Value) : ab_ck xM27 := ab_ck_of (by decide +kernel)
theorem xk28 (vS : Value) : ab_ck xM28 := ab_ck_of (by decide +kernel)
theorem xk29 (vS : Value) : ab_ck xM29 := ab_ck_of (by decide +kernel)
theorem xk30 (vS : Value) : ab_ck xM30 := ab_ck_of (by decide +kernel)
theorem xk31 (vS : Value) : ab_ck xM31 := ab_ck_of (by decide +kernel)
theorem xk32 (vS : Value) : ab_ck xM32 := ab_ck_of (by decide +kernel)
theorem xk33 (vS : Value) : ab_ck xM33 := ab_ck_of (by decide +kernel)
theorem xk34 (vS : Value) : ab_ck xM34 := ab_ck_of (by decide +kernel)
theorem xk35 (vS : Value) : ab_ck xM35 := ab_ck_of (by decide +kernel)
theorem xk36 (vS : Value) : ab_ck xM36 := ab_ck_of (by decide +kernel)
theorem xk37 (vS : Value) : ab_ck xM37 := ab_ck_of (by decide +kernel)
theorem xk38 (vS : Value) : ab_ck xM38 := ab_ck_of (by decide +kernel)
theorem xk39 (vS : Value) : ab_ck xM39 := ab_ck_of (by decide +kernel)
theorem xk40 (vS : Value) : ab_ck xM40 := ab_ck_of (by decide +kernel)
theorem xk41 (vS : Value) : ab_ck xM41 := ab_ck_of (by decide +kernel)
theorem xk42 (vS : Value) : ab_ck xM42 := ab_ck_of (by decide +kernel)
theorem xk43 (vS : Value) : ab_ck xM43 := ab_ck_of (by decide +kernel)
theorem xk44 (vS : Value) : ab_ck xM44 := ab_ck_of (by decide +kernel)
theorem xk45 (vS : Value) : ab_ck xM45 := ab_ck_of (by decide +kernel)
theorem xk46 (vS : Value) : ab_ck xM46 := ab_ck_of (by decide +kernel)
theorem xk47 (vS : Value) : ab_ck xM47 := ab_ck_of (by decide +kernel)
theorem xk48 (vS : Value) : ab_ck xM48 := ab_ck_of (by decide +kernel)
theorem xk49 (vS : Value) : ab_ck xM49 := ab_ck_of (by decide +kernel)
theorem xk50 (vS : Value) : ab_ck xM50 := ab_ck_of (by decide +kernel)
theorem xk51 (vS : Value) : ab_ck xM51 := ab_ck_of (by decide +kernel)
theorem xk52 (vS : Value) : ab_ck xM52 := ab_ck_of (by decide +kernel)
theorem xk53 (vS : Value) : ab_ck xM53 := ab_ck_of (by decide +kernel)
theorem xk54 (vS : Value) : ab_ck xM54 := ab_ck_of (by decide +kernel)
theorem xk55 (vS : Value) : ab_ck xM55 := ab_ck_of (by decide +kernel)
theorem xk56 (vS : Value) : ab_ck xM56 := ab_ck_of (by decide +kernel)
theorem xk57 (vS : Value) : ab_ck xM57 := ab_ck_of (by decide +kernel)
theorem xk58 (vS : Value) : ab_ck xM58 := ab_ck_of (by decide +kernel)
theorem xk59 (vS : Value) : ab_ck xM59 := ab_ck_of (by decide +kernel)
theorem xk60 (vS : Value) : ab_ck xM60 := ab_ck_of (by decide +kernel)
theorem xk61 (vS : Value) : ab_ck xM61 := ab_ck_of (by decide +kernel)
theorem xk62 (vS : Value) : ab_ck xM62 := ab_ck_of (by decide +kernel)
theorem xk63 (vS : Value) : ab_ck xM63 := ab_ck_of (by decide +kernel)
theorem xk64 (vS : Value) : ab_ck xM64 := ab_ck_of (by decide +kernel)
theorem xk65 (vS : Value) : ab_ck xM65 := ab_ck_of (by decide +kernel)
theorem xk66 (vS : Value) : ab_ck xM66 := ab_ck_of (by decide +kernel)
theorem xk67 (vS : Value) : ab_ck xM67 := ab_ck_of (by decide +kernel)
theorem xk68 (vS : Value) : ab_ck xM68 := ab_ck_of (by decide +kernel)
theorem xk69 (vS : Value) : ab_ck xM69 := ab_ck_of (by decide +kernel)
theorem xk70 (vS : Value) : ab_ck xM70 := ab_ck_of (by decide +kernel)
theorem xk71 (vS : Value) : ab_ck xM71 := ab_ck_of (by decide +kernel)
theorem xk72 (vS : Value) : ab_ck xM72 := ab_ck_of (by decide +kernel)
theorem xk73 (vS : Value) : ab_ck xM73 := ab_ck_of (by decide +kernel)
theorem xk74 (vS : Value) : ab_ck xM74 := ab_ck_of (by decide +kernel)
theorem xk75 (vS : Value) : ab_ck (xM75 vS) := fun q hq => (ab_ck_of (M := xM75 .null) (by decide +kernel)) q hq
theorem xk76 (vS : Value) : ab_ck xM76 := ab_ck_of (by decide +kernel)
theorem xk77 (vS : Value) : ab_ck xM77 := ab_ck_of (by decide +kernel)
theorem xk78 (vS : Value) : ab_ck xM78 := ab_ck_of (by decide +kernel)
theorem xk79 (vS : Value) : ab_ck xM79 := ab_ck_of (by decide +kernel)
theorem xk80 (vS : Value) : ab_ck xM80 := ab_ck_of (by decide +kernel)
theorem xk81 (vS : Value) : ab_ck xM81 := ab_ck_of (by decide +kernel)
theorem xk82 (vS : Value) : ab_ck xM82 := ab_ck_of (by decide +kernel)
theorem xk83 (vS : Value) : ab_ck xM83 := ab_ck_of (by decide +kernel)
theorem xk84 (vS : Value) : ab_ck xM84 := ab_ck_of (by decide +kernel)
theorem xk85 (vS : Value) : ab_ck xM85 := ab_ck_of (by decide +kernel)
theorem xk86 (vS : Value) : ab_ck xM86 := ab_ck_of (by decide +kernel)
theorem xk87 (vS : Value) : ab_ck xM87 := ab_ck_of (by decide +kernel)
theorem xk88 (vS : Value) : ab_ck xM88 := ab_ck_of (by decide +kernel)
theorem xk89 (vS : Value) : ab_ck xM89 := ab_ck_of (by decide +kernel)
theorem xk90 (vS : Value) : ab_ck xM90 := ab_ck_of (by decide +kernel)
theorem xk91 (vS : Value) : ab_ck xM91 := ab_ck_of (by decide +kernel)
theorem xk92 (vS : Value) : ab_ck xM92 := ab_ck_of (by decide +kernel)
theorem xk93 (vS : Value) : ab_ck xM93 := ab_ck_of (by decide +kernel)
theorem xk94 (vS : Value) : ab_ck xM94 := ab_ck_of (by decide +kernel)
theorem xk95 (vS : Value) : ab_ck xM95 := ab_ck_of (by decide +kernel)
theorem xk96 (vS : Value) : ab_ck xM96 := ab_ck_of (by decide +kernel)
theorem xk97 (vS : Value) : ab_ck xM97 := ab_ck_of (by decide +kernel)
theorem xk98 (vS : Value) : ab_ck xM98 := ab_ck_of (by decide +kernel)
theorem xk99 (vS : Value) : ab_ck xM99 := ab_ck_of (by decide +kernel)
theorem xk100 (vS : Value) : ab_ck xM100 := ab_ck_of (by decide +kernel)
theorem xk101 (vS : Value) : ab_ck xM101 := ab_ck_of (by decide +kernel)
theorem xk102 (vS : Value) : ab_ck xM102 := ab_ck_of (by decide +kernel)
theorem xk103 (vS : Value) : ab_ck xM103 := ab_ck_of (by decide +kernel)
theorem xk104 (vS : Value) : ab_ck xM104 := ab_ck_of (by decide +kernel)
theorem xk105 (vS : Value) : ab_ck xM105 := ab_ck_of (by decide +kernel)
theorem xk106 (vS : Value) : ab_ck xM106 := ab_ck_of (by decide +kernel)
theorem xk107 (vS : Value) : ab_ck xM107 := ab_ck_of (by decide +kernel)
theorem xk108 (vS : Value) : ab_ck xM108 := ab_ck_of (by decide +kernel)
theorem xk109 (vS : Value) : ab_ck xM109 := ab_ck_of (by decide +kernel)
theorem xk110 (vS : Value) : ab_ck xM110 := ab_ck_of (by decide +kernel)
theorem xk111 (vS : Value) : ab_ck xM111 := ab_ck_of (by decide +kernel)
theorem xk112 (vS : Value) : ab_ck xM112 := ab_ck_of (by decide +kernel)
theorem xk113 (vS : Value) : ab_ck xM113 := ab_ck_of (by decide +kernel)
theorem xk114 (vS : Value) : ab_ck xM114 := ab_ck_of (by decide +kernel)
theorem xk115 (vS : Value) : ab_ck xM115 := ab_ck_of (by decide +kernel)
theorem xk116 (vS : Value) : ab_ck xM116 := ab_ck_of (by decide +kernel)
theorem xk117 (vS : Value) : ab_ck xM117 := ab_ck_of (by decide +kernel)
theorem xk118 (vS : Value) : ab_ck xM118 := ab_ck_of (by decide +kernel)
theorem xk119 (vS : Value) : ab_ck xM119 := ab_ck_of (by decide +kernel)
theorem xk120 (vS : Value) : ab_ck xM120 := ab_ck_of (by decide +kernel)
theorem xk121 (vS : Value) : ab_ck xM121 := ab_ck_of (by decide +kernel)
theorem xk122 (vS : Value) : ab_ck xM122 := ab_ck_of (by decide +kernel)
theorem xk123 (vS : Value) : ab_ck xM123 := ab_ck_of (by decide +kernel)
theorem xk124 (vS : Value) : ab_ck xM124 := ab_ck_of (by decide +kernel)
theorem xk125 (vS : Value) : ab_ck xM125 := ab_ck_of (by decide +kernel)
theorem xk126 (vS : Value) : ab_ck xM126 := ab_ck_of (by decide +kernel)
theorem xk127 (vS : Value) : ab_ck xM127 := ab_ck_of (by decide +kernel)
theorem xk128 (vS : Value) : ab_ck xM128 := ab_ck_of (by decide +kernel)
theorem xk129 (vS : Value) : ab_ck xM129 := ab_ck_of (by decide +kernel)
theorem xk130 (vS : Value) : ab_ck xM130 := ab_ck_of (by decide +kernel)
theorem xk131 (vS : Value) : ab_ck xM131 := ab_ck_of (by decide +kernel)
theorem xk132 (vS : Value) : ab_ck xM132 := ab_ck_of (by decide +kernel)
theorem xk133 (vS : Value) : ab_ck xM133 := ab_ck_of (by decide +kernel)
theorem xk134 (vS : Value) : ab_ck xM134 := ab_ck_of (by decide +kernel)
theorem xk135 (vS : Value) : ab_ck xM135 := ab_ck_of (by decide +kernel)
theorem xk136 (vS : Value) : ab_ck xM136 := ab_ck_of (by decide +kernel)
theorem xk137 (vS : Value) : ab_ck xM137 := ab_ck_of (by decide +kernel)
theorem xk138 (vS : Value) : ab_ck xM138 := ab_ck_of (by decide +kernel)
theorem xk139 (vS : Value) : ab_ck xM139 := ab_ck_of (by decide +kernel)
theorem xk140 (vS : Value) : ab_ck xM140 := ab_ck_of (by decide +kernel)
theorem xk141 (vS : Value) : ab_ck xM141 := ab_ck_of (by decide +kernel)
end
section
theorem xw1 (vS : Value) : ab_mw x_Ts xM1 := ⟨Or.inr ⟨by decide, tm 141 (by decide +kernel)⟩, tm 0 (by decide +kernel), by decide +kernel, ⟨by decide +kernel, by decide +kernel⟩, by decide +kernel, (fun _ => tm 140 (by decide +kernel)), (fun h => absurd h (by decide))⟩
theorem xw2 (vS : Value) : ab_mw x_Ts xM2 := ⟨Or.inr ⟨by decide, tm 221 (by decide +kernel)⟩, tm 0 (by decide +kernel), by decide +kernel, ⟨by decide +kernel, by decide +kernel⟩, by decide +kernel, (fun _ => tm 220 (by decide +kernel)), (fun h => absurd h (by decide))⟩
theorem xw3 (vS : Value) : ab_mw x_Ts xM3 := ⟨Or.inr ⟨by decide, tm 245 (by decide +kernel)⟩, tm 0 (by decide +kernel), by decide +kernel, ⟨by decide +kernel, by decide +kernel⟩, by decide +kernel, (fun _ => tm 244 (by decide +kernel)), (fun h => absurd h (by decide))⟩
theorem xw4 (vS : Value) : ab_mw x_Ts xM4 := ⟨Or.inr ⟨by decide, tm 541 (by decide +kernel)⟩, tm 0 (by decide +kernel), by decide +kernel, ⟨by decide +kernel, by decide +kernel⟩, by decide +kernel, (fun _ => tm 540 (by decide +kernel)), (fun h => absurd h (by decide))⟩
theorem xw5 (vS : Value) : ab_mw x_Ts xM5 := ⟨Or.inr ⟨by decide, tm 570 (by decide +kernel)⟩, tm 0 (by decide +kernel), by decide +kernel, ⟨by decide +kernel, by decide +kernel⟩, by decide +kernel, (fun _ => tm 569 (by decide +kernel)), (fun h => absurd h (by decide))⟩
theorem xw6 (vS : Value) : ab_mw x_Ts xM6 := ⟨Or.inr ⟨by decide, tm 594 (by decide +kernel)⟩, tm 0 (by decide +kernel), by decide +kernel, ⟨by decide +kernel, by decide +kernel⟩, by decide +kernel, (fun _ => tm 593 (by decide +kernel)), (fun h => absurd h (by decide))⟩
theorem xw7 (vS : Value) : ab_mw x_Ts xM7 := ⟨Or.inr ⟨by decide, tm 602 (by decide +kernel)⟩, tm 0 (by decide +kernel), by decide +kernel, ⟨by decide +kernel, by decide +kernel⟩, by decide +kernel, (fun _ => tm 601 (by decide +kernel)), (fun h => absurd h (by decide))⟩
theorem xw8 (vS : Value) : ab_mw x_Ts xM8 := ⟨Or.inr ⟨by decide, tm 611 (by decide +kernel)⟩, tm 0 (by decide +kernel), by decide +kernel, ⟨by decide +kernel, by decide +kernel⟩, by decide +kernel, (fun _ => tm 610 (by decide +kernel)), (fun h => absurd h (by decide))⟩
theorem xw9 (vS : Value) : ab_mw x_Ts xM9 := ⟨Or.inr ⟨by decide, tm 623 (by decide +kernel)⟩, tm 0 (by decide +kernel), by decide +kernel, ⟨by decide +kernel, by decide +kernel⟩, by decide +kernel, (fun _ => tm 622 (by decide +kernel)), (fun h => absurd h (by decide))⟩
theorem xw10 (vS : Value) : ab_mw x_Ts xM10 := ⟨Or.inl ⟨rfl, tm 633 (by decide +kernel)⟩, tm 7 (by decide +kernel), by decide +kernel, ⟨by decide +kernel, by decide +kernel⟩, by decide +kernel, (fun h => absurd h (by decide)), (fun _ => tm 632 (by decide +kernel))⟩
theorem xw11 (vS : Value) : ab_mw x_Ts xM11 := ⟨Or.inl ⟨rfl, tm 753 (by decide +kernel)⟩, tm 7 (by decide +kernel), by decide +kernel, ⟨by decide +kernel, by decide +kernel⟩, by decide +kernel, (fun h => absurd h (by decide)), (fun _ => tm 751 (by decide +kernel))⟩
theorem xw12 (vS : Value) : ab_mw x_Ts xM12 := ⟨Or.inl ⟨rfl, tm 761 (by decide +kernel)⟩, tm 7 (by decide +kernel), by decide +kernel, ⟨by decide +kernel, by decide +kernel⟩, by decide +kernel, (fun h => absurd h (by decide)), (fun _ => tm 760 (by decide +kernel))⟩
theorem xw13 (vS : Value) : ab_mw x_Ts xM13 := ⟨Or.inl ⟨rfl, tm 782 (by decide +kernel)⟩, tm 7 (by decide +kernel), by decide +kernel, ⟨by decide +kernel, by decide +kernel⟩, by decide +kernel, (fun h => absurd h (by decide)), (fun _ => tm 781 (by decide +kernel))⟩
theorem xw14 (vS : Value) : ab_mw x_Ts xM14 := ⟨Or.inl ⟨rfl, tm 786 (by decide +kernel)⟩, tm 7 (by decide +kernel), by decide +kernel, ⟨by decide +kernel, by decide +kernel⟩, by decide +kernel, (fun h => absurd h (by decide)), (fun _ => tm 785 (by decide +kernel))⟩
theorem xw15 (vS : Value) : ab_mw x_Ts xM15 := ⟨Or.inl ⟨rfl, tm 798 (by decide +kernel)⟩, tm 7 (by decide +kernel), by decide +kernel, ⟨by decide +kernel, by decide +kernel⟩, by decide +kernel, (fun h => absurd h (by decide)), (fun _ => tm 797 (by decide +kernel))⟩
theorem xw16 (vS : Value) : ab_mw x_Ts xM16 := ⟨Or.inl ⟨rfl, tm 790 (by decide +kernel)⟩, tm 7 (by decide +kernel), by decide +kernel, ⟨by decide +kernel, by decide +kernel⟩, by decide +kernel, (fun h => absurd h (by decide)), (fun _ => tm 789 (by decide +kernel))⟩
theorem xw17 (vS : Value) : ab_mw x_Ts xM17 := ⟨Or.inl ⟨rfl, tm 778 (by decide +kernel)⟩, tm 7 (by decide +kernel), by decide +kernel, ⟨by decide +kernel, by decide +kernel⟩, by decide +kernel, (fun h => absurd h (by decide)), (fun _ => tm 777 (by decide +kernel))⟩
theorem xw18 (vS : Value) : ab_mw x_Ts xM18 := ⟨Or.inl ⟨rfl, tm 802 (by decide +kernel)⟩, tm 7 (by decide +kernel), by decide +kernel, ⟨by decide +kernel, by decide +kernel⟩, by decide +kernel, (fun h => absurd h (by decide)), (fun _ => tm 801 (by decide +kernel))⟩
theorem xw19 (vS : Value) : ab_mw x_Ts xM19 := ⟨Or.inl ⟨rfl, tm 774 (by decide +kernel)⟩, tm 7 (by decide +kernel), by decide +kernel, ⟨by decide +kernel, by decide +kernel⟩, by decide +kernel, (fun h => absurd h (by decide)), (fun _ => tm 773 (by decide +kernel))⟩
theorem xw20 (vS : Value) : ab_mw x_Ts xM20 := ⟨Or.inl ⟨rfl, tm 794 (by decide +kernel)⟩, tm 7 (by decide +kernel), by decide +kernel, ⟨by decide +kernel, by decide +kernel⟩, by decide +kernel, (fun h => absurd h (by decide)), (fun _ => tm 793 (by decide +kernel))⟩
theorem xw21 (vS : Value) : ab_mw x_Ts xM21 := ⟨Or.inl ⟨rfl, tm 1031 (by decide +kernel)⟩, tm 7 (by decide +kernel), by decide +kernel, ⟨by decide +kernel, by decide +kernel⟩, by decide +kernel, (fun h => absurd h (by decide)), (fun _ => tm 1030 (by decide +kernel))⟩
theorem xw22 (vS : Value) : ab_mw x_Ts xM22 := ⟨Or.inl ⟨rfl, tm 1037 (by decide +kernel)⟩, tm 7 (by decide +kernel), by decide +kernel, ⟨by decide +kernel, by decide +kernel⟩, by decide +kernel, (fun h => absurd h (by decide)), (fun _ => tm 1036 (by decide +kernel))⟩
theorem xw23 (vS : Value) : ab_mw x_Ts xM23 := ⟨Or.inl ⟨rfl, tm 1041 (by decide +kernel)⟩, tm 7 (by decide +kernel), by decide +kernel, ⟨by decide +kernel, by decide +kernel⟩, by decide +kernel, (fun h => absurd h (by decide)), (fun _ => tm 1040 (by decide +kernel))⟩
theorem xw24 (vS : Value) : ab_mw x_Ts xM24 := ⟨Or.inl ⟨rfl, tm 1051 (by decide +kernel)⟩, tm 7 (by decide +kernel), by decide +kernel, ⟨by decide +kernel, by decide +kernel⟩, by decide +kernel, (fun h => absurd h (by decide)), (fun _ => tm 1050 (by decide +kernel))⟩
theorem xw25 (vS : Value) : ab_mw x_Ts xM25 := ⟨Or.inl ⟨rfl, tm 1100 (by decide +kernel)⟩, tm 7 (by decide +kernel), by decide +kernel, ⟨by decide +kernel, by decide +kernel⟩, by decide +kernel, (fun h => absurd h (by decide)), (fun _ => tm 1099 (by decide +kernel))⟩
theorem xw26 (vS : Value) : ab_mw x_Ts xM26 := ⟨Or.inl ⟨rfl, tm 1134 (by decide +kernel)⟩, tm 7 (by decide +kernel), by decide +kernel, ⟨by decide +kernel, by decide +kernel⟩, by decide +kernel, (fun h => absurd h (by decide)), (fun _ => tm 1133 (by decide +kernel))⟩
theorem xw27 (vS : Value) : ab_mw x_Ts xM27 := ⟨Or.inl ⟨rfl, tm 1114 (by decide +kernel)⟩, tm 7 (by decide +kernel), by decide +kernel, ⟨by decide +kernel, by decide +kernel⟩, by decide +kernel, (fun h => absurd h (by decide)), (fun _ => tm 1113 (by decide +kernel))⟩
theorem xw28 (vS : Value) : ab_mw x_Ts xM28 := ⟨Or.inl ⟨rfl, tm 1096 (by decide +kernel)⟩, tm 7 (by decide +kernel), by decide +kernel, ⟨by decide +kernel, by decide +kernel⟩, by decide +kernel, (fun h => absurd h (by decide)), (fun _ => tm 1095 (by decide +kernel))⟩
theorem xw29 (vS : Value) : ab_mw x_Ts xM29 := ⟨Or.inl ⟨rfl, tm 1130 (by decide +kernel)⟩, tm 7 (by decide +kernel), by decide +kernel, ⟨by decide +kernel, by decide +kernel⟩, by decide +kernel, (fun h => absurd h (by decide)), (fun _ => tm 1129 (by decide +kernel))⟩
theorem xw30 (vS : Value) : ab_mw x_Ts xM30 := ⟨Or.inl ⟨rfl, tm 1047 (by decide +kernel)⟩, tm 7 (by decide +kernel), by decide +kernel, ⟨by decide +kernel, by decide +kernel⟩, by decide +kernel, (fun h => absurd h (by decide)), (fun _ => tm 1046 (by decide +kernel))⟩
theorem xw31 (vS : Value) : ab_mw x_Ts xM31 := ⟨Or.inl ⟨rfl, tm 1118 (by decide +kernel)⟩, tm 7 (by decide +kernel), by decide +kernel, ⟨by decide +kernel, by decide +kernel⟩, by decide +kernel, (fun h => absurd h (by decide)), (fun _ => tm 1117 (by decide +kernel))⟩
theorem xw32 (vS : Value) : ab_mw x_Ts xM32 := ⟨Or.inl ⟨rfl, tm 1126 (by decide +kernel)⟩, tm 7 (by decide +kernel), by decide +kernel, ⟨by decide +kernel, by decide +kernel⟩, by decide +kernel, (fun h => absurd h (by decide)), (fun _ => tm 1125 (by decide +kernel))⟩
theorem xw33 (vS : Value) : ab_mw x_Ts xM33 := ⟨Or.inl ⟨rfl, tm 1142 (by decide +kernel)⟩, tm 7 (by decide +kernel), by decide +kernel, ⟨by decide +kernel, by decide +kernel⟩, by decide +kernel, (fun h => absurd h (by decide)), (fun _ => tm 1141 (by decide +kernel))⟩
theorem xw34 (vS : Value) : ab_mw x_Ts xM34 := ⟨Or.inl ⟨rfl, tm 1138 (by decide +kernel)⟩, tm 7 (by decide +kernel), by decide +kernel, ⟨by decide +kernel, by decide +kernel⟩, by decide +kernel, (fun h => absurd h (by decide)), (fun _ => tm 1137 (by decide +kernel))⟩
theorem xw35 (vS : Value) : ab_mw x_Ts xM35 := ⟨Or.inl ⟨rfl, tm 757 (by decide +kernel)⟩, tm 7 (by decide +kernel), by decide +kernel, ⟨by decide +kernel, by decide +kernel⟩, by decide +kernel, (fun h => absurd h (by decide)), (fun _ => tm 755 (by decide +kernel))⟩
theorem xw36 (vS : Value) : ab_mw x_Ts xM36 := ⟨Or.inl ⟨rfl, tm 765 (by decide +kernel)⟩, tm 7 (by decide +kernel), by decide +kernel, ⟨by decide +kernel, by decide +kernel⟩, by decide +kernel, (fun h => absurd h (by decide)), (fun _ => tm 763 (by decide +kernel))⟩
theorem xw37 (vS : Value) : ab_mw x_Ts xM37 := ⟨Or.inr ⟨by decide, tm 769 (by decide +kernel)⟩, tm 7 (by decide +kernel), by decide +kernel, ⟨by decide +kernel, by decide +kernel⟩, by decide +kernel, (fun h => absurd h (by decide)), (fun _ => tm 767 (by decide +kernel))⟩
theorem xw38 (vS : Value) : ab_mw x_Ts xM38 := ⟨Or.inl ⟨rfl, tm 1146 (by decide +kernel)⟩, tm 7 (by decide +kernel), by decide +kernel, ⟨by decide +kernel, by decide +kernel⟩, by decide +kernel, (fun h => absurd h (by decide)), (fun _ => tm 1144 (by decide +kernel))⟩
theorem xw39 (vS : Value) : ab_mw x_Ts xM39 := ⟨Or.inl ⟨rfl, tm 1154 (by decide +kernel)⟩, tm 7 (by decide +kernel), by decide +kernel, ⟨by decide +kernel, by decide +kernel⟩, by decide +kernel, (fun h => absurd h (by decide)), (fun _ => tm 1153 (by decide +kernel))⟩
theorem xw40 (vS : Value) : ab_mw x_Ts xM40 := ⟨Or.inl ⟨rfl, tm 1158 (by decide +kernel)⟩, tm 7 (by decide +kernel), by decide +kernel, ⟨by decide +kernel, by decide +kernel⟩, by decide +kernel, (fun h => absurd h (by decide)), (fun _ => tm 1157 (by decide +kernel))⟩
theorem xw41 (vS : Value) : ab_mw x_Ts xM41 := ⟨Or.inl ⟨rfl, tm 1150 (by decide +kernel)⟩, tm 7 (by decide +kernel), by decide +kernel, ⟨by decide +kernel, by decide +kernel⟩, by decide +kernel, (fun h => absurd h (by decide)), (fun _ => tm 1148 (by decide +kernel))⟩
theorem xw42 (vS : Value) : ab_mw x_Ts xM42 := ⟨Or.inl ⟨rfl, tm 1162 (by decide +kernel)⟩, tm 7 (by decide +kernel), by decide +kernel, ⟨by decide +kernel, by decide +kernel⟩, by decide +kernel, (fun h => absurd h (by decide)), (fun _ => tm 1160 (by decide +kernel))⟩
theorem xw43 (vS : Value) : ab_mw x_Ts xM43 := ⟨Or.inl ⟨rfl, tm 1166 (by decide +kernel)⟩, tm 7 (by decide +kernel), by decide +kernel, ⟨by decide +kernel, by decide +kernel⟩, by decide +kernel, (fun h => absurd h (by decide)), (fun _ => tm 1164 (by decide +kernel))⟩
theorem xw44 (vS : Value) : ab_mw x_Ts xM44 := ⟨Or.inl ⟨rfl, tm 1170 (by decide +kernel)⟩, tm 7 (by decide +kernel), by decide +kernel, ⟨by decide +kernel, by decide +kernel⟩, by decide +kernel, (fun h => absurd h (by decide)), (fun _ => tm 1168 (by decide +kernel))⟩
theorem xw45 (vS : Value) : ab_mw x_Ts xM45 := ⟨Or.inl ⟨rfl, tm 1174 (by decide +kernel)⟩, tm 7 (by decide +kernel), by decide +kernel, ⟨by decide +kernel, by decide +kernel⟩, by decide +kernel, (fun h => absurd h (by decide)), (fun _ => tm 1172 (by decide +kernel))⟩
theorem xw46 (vS : Value) : ab_mw x_Ts xM46 := ⟨Or.inl ⟨rfl, tm 1178 (by decide +kernel)⟩, tm 7 (by decide +kernel), by decide +kernel, ⟨by decide +kernel, by decide +kernel⟩, by decide +kernel, (fun h => absurd h (by decide)), (fun _ => tm 1176 (by decide +kernel))⟩
theorem xw47 (vS : Value) : ab_mw x_Ts xM47 := ⟨Or.inl ⟨rfl, tm 1055 (by decide +kernel)⟩, tm 26 (by decide +kernel), by decide +kernel, ⟨by decide +kernel, by decide +kernel⟩, by decide +kernel, (fun h => absurd h (by decide)), (fun _ => tm 1054 (by decide +kernel))⟩
theorem xw48 (vS : Value) : ab_mw x_Ts xM48 := ⟨Or.inl ⟨rfl, tm 1122 (by decide +kernel)⟩, tm 26 (by decide +kernel), by decide +kernel, ⟨by decide +kernel, by decide +kernel⟩, by decide +kernel, (fun h => absurd h (by decide)), (fun _ => tm 1120 (by decide +kernel))⟩
theorem xw49 (vS : Value) : ab_mw x_Ts xM49 := ⟨Or.inl ⟨rfl, tm 103 (by decide +kernel)⟩, tm 6 (by decide +kernel), by decide +kernel, ⟨by decide +kernel, by decide +kernel⟩, by decide +kernel, (fun h => absurd h (by decide)), (fun _ => tm 102 (by decide +kernel))⟩
theorem xw50 (vS : Value) : ab_mw x_Ts xM50 := ⟨Or.inl ⟨rfl, tm 446 (by decide +kernel)⟩, tm 6 (by decide +kernel), by decide +kernel, ⟨by decide +kernel, by decide +kernel⟩, by decide +kernel, (fun h => absurd h (by decide)), (fun _ => tm 444 (by decide +kernel))⟩
theorem xw51 (vS : Value) : ab_mw x_Ts xM51 := ⟨Or.inl ⟨rfl, tm 450 (by decide +kernel)⟩, tm 6 (by decide +kernel), by decide +kernel, ⟨by decide +kernel, by decide +kernel⟩, by decide +kernel, (fun h => absurd h (by decide)), (fun _ => tm 449 (by decide +kernel))⟩
theorem xw52 (vS : Value) : ab_mw x_Ts xM52 := ⟨Or.inl ⟨rfl, tm 454 (by decide +kernel)⟩, tm 6 (by decide +kernel), by decide +kernel, ⟨by decide +kernel, by decide +kernel⟩, by decide +kernel, (fun h => absurd h (by decide)), (fun _ => tm 453 (by decide +kernel))⟩
theorem xw53 (vS : Value) : ab_mw x_Ts xM53 := ⟨Or.inl ⟨rfl, tm 458 (by decide +kernel)⟩, tm 6 (by decide +kernel), by decide +kernel, ⟨by decide +kernel, by decide +kernel⟩, by decide +kernel, (fun h => absurd h (by decide)), (fun _ => tm 457 (by decide +kernel))⟩
theorem xw54 (vS : Value) : ab_mw x_Ts xM54 := ⟨Or.inl ⟨rfl, tm 254 (by decide +kernel)⟩, tm 6 (by decide +kernel), by decide +kernel, ⟨by decide +kernel, by decide +kernel⟩, by decide +kernel, (fun h => absurd h (by decide)), (fun _ => tm 252 (by decide +kernel))⟩
theorem xw55 (vS : Value) : ab_mw x_Ts xM55 := ⟨Or.inl ⟨rfl, tm 554 (by decide +kernel)⟩, tm 6 (by decide +kernel), by decide +kernel, ⟨by decide +kernel, by decide +kernel⟩, by decide +kernel, (fun h => absurd h (by decide)), (fun _ => tm 552 (by decide +kernel))⟩
theorem xw56 (vS : Value) : ab_mw x_Ts xM56 := ⟨Or.inl ⟨rfl, tm 562 (by decide +kernel)⟩, tm 6 (by decide +kernel), by decide +kernel, ⟨by decide +kernel, by decide +kernel⟩, by decide +kernel, (fun h => absurd h (by decide)), (fun _ => tm 560 (by decide +kernel))⟩
theorem xw57 (vS : Value) : ab_mw x_Ts xM57 := ⟨Or.inl ⟨rfl, tm 510 (by decide +kernel)⟩, tm 6 (by decide +kernel), by decide +kernel, ⟨by decide +kernel, by decide +kernel⟩, by decide +kernel, (fun h => absurd h (by decide)), (fun _ => tm 508 (by decide +kernel))⟩
theorem xw58 (vS : Value) : ab_mw x_Ts xM58 := ⟨Or.inl ⟨rfl, tm 106 (by decide +kernel)⟩, tm 5 (by decide +kernel), by decide +kernel, ⟨by decide +kernel, by decide +kernel⟩, by decide +kernel, (fun h => absurd h (by decide)), (fun _ => tm 105 (by decide +kernel))⟩
theorem xw59 (vS : Value) : ab_mw x_Ts xM59 := ⟨Or.inl ⟨rfl, tm 109 (by decide +kernel)⟩, tm 4 (by decide +kernel), by decide +kernel, ⟨by decide +kernel, by decide +kernel⟩, by decide +kernel, (fun h => absurd h (by decide)), (fun _ => tm 108 (by decide +kernel))⟩
theorem xw60 (vS : Value) : ab_mw x_Ts xM60 := ⟨Or.inl ⟨rfl, tm 461 (by decide +kernel)⟩, tm 19 (by decide +kernel), by decide +kernel, ⟨by decide +kernel, by decide +kernel⟩, by decide +kernel, (fun _ => tm 460 (by decide +kernel)), (fun h => absurd h (by decide))⟩
theorem xw61 (vS : Value) : ab_mw x_Ts xM61 := ⟨Or.inl ⟨rfl, tm 471 (by decide +kernel)⟩, tm 21 (by decide +kernel), by decide +kernel, ⟨by decide +kernel, by decide +kernel⟩, by decide +kernel, (fun _ => tm 470 (by decide +kernel)), (fun h => absurd h (by decide))⟩
theorem xw62 (vS : Value) : ab_mw x_Ts xM62 := ⟨Or.inl ⟨rfl, tm 491 (by decide +kernel)⟩, tm 21 (by decide +kernel), by decide +kernel, ⟨by decide +kernel, by decide +kernel⟩, by decide +kernel, (fun _ => tm 490 (by decide +kernel)), (fun h => absurd h (by decide))⟩
theorem xw63 (vS : Value) : ab_mw x_Ts xM63 := ⟨Or.inl ⟨rfl, tm 852 (by decide +kernel)⟩, tm 21 (by decide +kernel), by decide +kernel, ⟨by decide +kernel, by decide +kernel⟩, by decide +kernel, (fun _ => tm 851 (by decide +kernel)), (fun h => absurd h (by decide))⟩
theorem xw64 (vS : Value) : ab_mw x_Ts xM64 := ⟨Or.inl ⟨rfl, tm 922 (by decide +kernel)⟩, tm 21 (by decide +kernel), by decide +kernel, ⟨by decide +kernel, by decide +kernel⟩, by decide +kernel, (fun _ => tm 921 (by decide +kernel)), (fun h => absurd h (by decide))⟩
theorem xw65 (vS : Value) : ab_mw x_Ts xM65 := ⟨Or.inl ⟨rfl, tm 925 (by decide +kernel)⟩, tm 21 (by decide +kernel), by decide +kernel, ⟨by decide +kernel, by decide +kernel⟩, by decide +kernel, (fun _ => tm 924 (by decide +kernel)), (fun h => absurd h (by decide))⟩
theorem xw66 (vS : Value) : ab_mw x_Ts xM66 := ⟨Or.inl ⟨rfl, tm 928 (by decide +kernel)⟩, tm 21 (by decide +kernel), by decide +kernel, ⟨by decide +kernel, by decide +kernel⟩, by decide +kernel, (fun _ => tm 927 (by decide +kernel)), (fun h => absurd h (by decide))⟩
theorem xw67 (vS : Value) : ab_mw x_Ts xM67 := ⟨Or.inl ⟨rfl, tm 497 (by decide +kernel)⟩, tm 20 (by decide +kernel), by decide +kernel, ⟨by decide +kernel, by decide +kernel⟩, by decide +kernel, (fun _ => tm 496 (by decide +kernel)), (fun h => absurd h (by decide))⟩
theorem xw68 (vS : Value) : ab_mw x_Ts xM68 := ⟨Or.inl ⟨rfl, tm 464 (by decide +kernel)⟩, tm 20 (by decide +kernel), by decide +kernel, ⟨by decide +kernel, by decide +kernel⟩, by decide +kernel, (fun _ => tm 463 (by decide +kernel)), (fun h => absurd h (by decide))⟩
theorem xw69 (vS : Value) : ab_mw x_Ts xM69 := ⟨Or.inl ⟨rfl, tm 557 (by decide +kernel)⟩, tm 27 (by decide +kernel), by decide +kernel, ⟨by decide +kernel, by decide +kernel⟩, by decide +kernel, (fun _ => tm 556 (by decide +kernel)), (fun h => absurd h (by decide))⟩
theorem xw70 (vS : Value) : ab_mw x_Ts xM70 := ⟨Or.inl ⟨rfl, tm 335 (by decide +kernel)⟩, tm 15 (by decide +kernel), by decide +kernel, ⟨by decide +kernel, by decide +kernel⟩, by decide +kernel, (fun _ => tm 334 (by decide +kernel)), (fun h => absurd h (by decide))⟩
theorem xw71 (vS : Value) : ab_mw x_Ts xM71 := ⟨Or.inl ⟨rfl, tm 306 (by decide +kernel)⟩, tm 13 (by decide +kernel), by decide +kernel, ⟨by decide +kernel, by decide +kernel⟩, by decide +kernel, (fun h => absurd h (by decide)), (fun _ => tm 304 (by decide +kernel))⟩
theorem xw72 (vS : Value) : ab_mw x_Ts xM72 := ⟨Or.inl ⟨rfl, tm 310 (by decide +kernel)⟩, tm 13 (by decide +kernel), by decide +kernel, ⟨by decide +kernel, by decide +kernel⟩, by decide +kernel, (fun h => absurd h (by decide)), (fun _ => tm 308 (by decide +kernel))⟩
theorem xw73 (vS : Value) : ab_mw x_Ts xM73 := ⟨Or.inl ⟨rfl, tm 324 (by decide +kernel)⟩, tm 13 (by decide +kernel), by decide +kernel, ⟨by decide +kernel, by decide +kernel⟩, by decide +kernel, (fun h => absurd h (by decide)), (fun _ => tm 322 (by decide +kernel))⟩
theorem xw74 (vS : Value) : ab_mw x_Ts xM74 := ⟨Or.inl ⟨rfl, tm 320 (by decide +kernel)⟩, tm 13 (by decide +kernel), by decide +kernel, ⟨by decide +kernel, by decide +kernel⟩, by decide +kernel, (fun h => absurd h (by decide)), (fun _ => tm 318 (by decide +kernel))⟩
theorem xw75n : ab_mw x_Ts (xM75 .null) := ⟨Or.inl ⟨rfl, tm 330 (by decide +kernel)⟩, tm 13 (by decide +kernel), by decide +kernel, ⟨by decide +kernel, by decide +kernel⟩, by decide +kernel, (fun _ => tm 329 (by decide +kernel)), (fun h => absurd h (by decide))⟩
theorem xw75 (vS : Value) : ab_mw x_Ts (xM75 vS) := xw75n
theorem xw76 (vS : Value) : ab_mw x_Ts xM76 := ⟨Or.inl ⟨rfl, tm 1023 (by decide +kernel)⟩, tm 13 (by decide +kernel), by decide +kernel, ⟨by decide +kernel, by decide +kernel⟩, by decide +kernel, (fun h => absurd h (by decide)), (fun _ => tm 1021 (by decide +kernel))⟩
theorem xw77 (vS : Value) : ab_mw x_Ts xM77 := ⟨Or.inl ⟨rfl, tm 901 (by decide +kernel)⟩, tm 13 (by decide +kernel), by decide +kernel, ⟨by decide +kernel, by decide +kernel⟩, by decide +kernel, (fun h => absurd h (by decide)), (fun _ => tm 900 (by decide +kernel))⟩
theorem xw78 (vS : Value) : ab_mw x_Ts xM78 := ⟨Or.inl ⟨rfl, tm 904 (by decide +kernel)⟩, tm 13 (by decide +kernel), by decide +kernel, ⟨by decide +kernel, by decide +kernel⟩, by decide +kernel, (fun h => absurd h (by decide)), (fun _ => tm 903 (by decide +kernel))⟩
theorem xw79 (vS : Value) : ab_mw x_Ts xM79 := ⟨Or.inl ⟨rfl, tm 327 (by decide +kernel)⟩, tm 14 (by decide +kernel), by decide +kernel, ⟨by decide +kernel, by decide +kernel⟩, by decide +kernel, (fun _ => tm 326 (by decide +kernel)), (fun h => absurd h (by decide))⟩
theorem xw80 (vS : Value) : ab_mw x_Ts xM80 := ⟨Or.inl ⟨rfl, tm 1027 (by decide +kernel)⟩, tm 14 (by decide +kernel), by decide +kernel, ⟨by decide +kernel, by decide +kernel⟩, by decide +kernel, (fun _ => tm 1026 (by decide +kernel)), (fun h => absurd h (by decide))⟩
theorem xw81 (vS : Value) : ab_mw x_Ts xM81 := ⟨Or.inl ⟨rfl, tm 867 (by decide +kernel)⟩, tm 14 (by decide +kernel), by decide +kernel, ⟨by decide +kernel, by decide +kernel⟩, by decide +kernel, (fun _ => tm 866 (by decide +kernel)), (fun h => absurd h (by decide))⟩
theorem xw82 (vS : Value) : ab_mw x_Ts xM82 := ⟨Or.inl ⟨rfl, tm 807 (by decide +kernel)⟩, tm 24 (by decide +kernel), by decide +kernel, ⟨by decide +kernel, by decide +kernel⟩, by decide +kernel, (fun h => absurd h (by decide)), (fun _ => tm 806 (by decide +kernel))⟩
theorem xw83 (vS : Value) : ab_mw x_Ts xM83 := ⟨Or.inl ⟨rfl, tm 836 (by decide +kernel)⟩, tm 24 (by decide +kernel), by decide +kernel, ⟨by decide +kernel, by decide +kernel⟩, by decide +kernel, (fun h => absurd h (by decide)), (fun _ => tm 834 (by decide +kernel))⟩
theorem xw84 (vS : Value) : ab_mw x_Ts xM84 := ⟨Or.inl ⟨rfl, tm 896 (by decide +kernel)⟩, tm 24 (by decide +kernel), by decide +kernel, ⟨by decide +kernel, by decide +kernel⟩, by decide +kernel, (fun h => absurd h (by decide)), (fun _ => tm 894 (by decide +kernel))⟩
theorem xw85 (vS : Value) : ab_mw x_Ts xM85 := ⟨Or.inl ⟨rfl, tm 916 (by decide +kernel)⟩, tm 24 (by decide +kernel), by decide +kernel, ⟨by decide +kernel, by decide +kernel⟩, by decide +kernel, (fun h => absurd h (by decide)), (fun _ => tm 915 (by decide +kernel))⟩
theorem xw86 (vS : Value) : ab_mw x_Ts xM86 := ⟨Or.inl ⟨rfl, tm 810 (by decide +kernel)⟩, tm 23 (by decide +kernel), by decide +kernel, ⟨by decide +kernel, by decide +kernel⟩, by decide +kernel, (fun h => absurd h (by decide)), (fun _ => tm 809 (by decide +kernel))⟩
theorem xw87 (vS : Value) : ab_mw x_Ts xM87 := ⟨Or.inl ⟨rfl, tm 839 (by decide +kernel)⟩, tm 23 (by decide +kernel), by decide +kernel, ⟨by decide +kernel, by decide +kernel⟩, by decide +kernel, (fun h => absurd h (by decide)), (fun _ => tm 838 (by decide +kernel))⟩
theorem xw88 (vS : Value) : ab_mw x_Ts xM88 := ⟨Or.inl ⟨rfl, tm 843 (by decide +kernel)⟩, tm 23 (by decide +kernel), by decide +kernel, ⟨by decide +kernel, by decide +kernel⟩, by decide +kernel, (fun h => absurd h (by decide)), (fun _ => tm 842 (by decide +kernel))⟩
theorem xw89 (vS : Value) : ab_mw x_Ts xM89 := ⟨Or.inl ⟨rfl, tm 847 (by decide +kernel)⟩, tm 23 (by decide +kernel), by decide +kernel, ⟨by decide +kernel, by decide +kernel⟩, by decide +kernel, (fun h => absurd h (by decide)), (fun _ => tm 846 (by decide +kernel))⟩
theorem xw90 (vS : Value) : ab_mw x_Ts xM90 := ⟨Or.inl ⟨rfl, tm 864 (by decide +kernel)⟩, tm 23 (by decide +kernel), by decide +kernel, ⟨by decide +kernel, by decide +kernel⟩, by decide +kernel, (fun h => absurd h (by decide)), (fun _ => tm 861 (by decide +kernel))⟩
theorem xw91 (vS : Value) : ab_mw x_Ts xM91 := ⟨Or.inl ⟨rfl, tm 910 (by decide +kernel)⟩, tm 23 (by decide +kernel), by decide +kernel, ⟨by decide +kernel, by decide +kernel⟩, by decide +kernel, (fun h => absurd h (by decide)), (fun _ => tm 907 (by decide +kernel))⟩
theorem xw92 (vS : Value) : ab_mw x_Ts xM92 := ⟨Or.inl ⟨rfl, tm 918 (by decide +kernel)⟩, tm 23 (by decide +kernel), by decide +kernel, ⟨by decide +kernel, by decide +kernel⟩, by decide +kernel, (fun h => absurd h (by decide)), (fun _ => tm 912 (by decide +kernel))⟩
theorem xw93 (vS : Value) : ab_mw x_Ts xM93 := ⟨Or.inl ⟨rfl, tm 33 (by decide +kernel)⟩, tm 1 (by decide +kernel), by decide +kernel, ⟨by decide +kernel, by decide +kernel⟩, by decide +kernel, (fun h => absurd h (by decide)), (fun _ => tm 32 (by decide +kernel))⟩
theorem xw94 (vS : Value) : ab_mw x_Ts xM94 := ⟨Or.inl ⟨rfl, tm 146 (by decide +kernel)⟩, tm 1 (by decide +kernel), by decide +kernel, ⟨by decide +kernel, by decide +kernel⟩, by decide +kernel, (fun h => absurd h (by decide)), (fun _ => tm 144 (by decide +kernel))⟩
theorem xw95 (vS : Value) : ab_mw x_Ts xM95 := ⟨Or.inl ⟨rfl, tm 226 (by decide +kernel)⟩, tm 1 (by decide +kernel), by decide +kernel, ⟨by decide +kernel, by decide +kernel⟩, by decide +kernel, (fun h => absurd h (by decide)), (fun _ => tm 224 (by decide +kernel))⟩
theorem xw96 (vS : Value) : ab_mw x_Ts xM96 := ⟨Or.inl ⟨rfl, tm 250 (by decide +kernel)⟩, tm 1 (by decide +kernel), by decide +kernel, ⟨by decide +kernel, by decide +kernel⟩, by decide +kernel, (fun h => absurd h (by decide)), (fun _ => tm 248 (by decide +kernel))⟩
theorem xw97 (vS : Value) : ab_mw x_Ts xM97 := ⟨Or.inl ⟨rfl, tm 138 (by decide +kernel)⟩, tm 1 (by decide +kernel), by decide +kernel, ⟨by decide +kernel, by decide +kernel⟩, by decide +kernel, (fun h => absurd h (by decide)), (fun _ => tm 136 (by decide +kernel))⟩
theorem xw98 (vS : Value) : ab_mw x_Ts xM98 := ⟨Or.inl ⟨rfl, tm 545 (by decide +kernel)⟩, tm 1 (by decide +kernel), by decide +kernel, ⟨by decide +kernel, by decide +kernel⟩, by decide +kernel, (fun h => absurd h (by decide)), (fun _ => tm 543 (by decide +kernel))⟩
theorem xw99 (vS : Value) : ab_mw x_Ts xM99 := ⟨Or.inl ⟨rfl, tm 575 (by decide +kernel)⟩, tm 1 (by decide +kernel), by decide +kernel, ⟨by decide +kernel, by decide +kernel⟩, by decide +kernel, (fun h => absurd h (by decide)), (fun _ => tm 573 (by decide +kernel))⟩
theorem xw100 (vS : Value) : ab_mw x_Ts xM100 := ⟨Or.inl ⟨rfl, tm 598 (by decide +kernel)⟩, tm 1 (by decide +kernel), by decide +kernel, ⟨by decide +kernel, by decide +kernel⟩, by decide +kernel, (fun h => absurd h (by decide)), (fun _ => tm 596 (by decide +kernel))⟩
theorem xw101 (vS : Value) : ab_mw x_Ts xM101 := ⟨Or.inl ⟨rfl, tm 606 (by decide +kernel)⟩, tm 1 (by decide +kernel), by decide +kernel, ⟨by decide +kernel, by decide +kernel⟩, by decide +kernel, (fun h => absurd h (by decide)), (fun _ => tm 604 (by decide +kernel))⟩
theorem xw102 (vS : Value) : ab_mw x_Ts xM102 := ⟨Or.inl ⟨rfl, tm 615 (by decide +kernel)⟩, tm 1 (by decide +kernel), by decide +kernel, ⟨by decide +kernel, by decide +kernel⟩, by decide +kernel, (fun h => absurd h (by decide)), (fun _ => tm 613 (by decide +kernel))⟩
theorem xw103 (vS : Value) : ab_mw x_Ts xM103 := ⟨Or.inl ⟨rfl, tm 627 (by decide +kernel)⟩, tm 1 (by decide +kernel), by decide +kernel, ⟨by decide +kernel, by decide +kernel⟩, by decide +kernel, (fun h => absurd h (by decide)), (fun _ => tm 625 (by decide +kernel))⟩
theorem xw104 (vS : Value) : ab_mw x_Ts xM104 := ⟨Or.inl ⟨rfl, tm 549 (by decide +kernel)⟩, tm 1 (by decide +kernel), by decide +kernel, ⟨by decide +kernel, by decide +kernel⟩, by decide +kernel, (fun h => absurd h (by decide)), (fun _ => tm 548 (by decide +kernel))⟩
theorem xw105 (vS : Value) : ab_mw x_Ts xM105 := ⟨Or.inl ⟨rfl, tm 381 (by decide +kernel)⟩, tm 1 (by decide +kernel), by decide +kernel, ⟨by decide +kernel, by decide +kernel⟩, by decide +kernel, (fun h => absurd h (by decide)), (fun _ => tm 380 (by decide +kernel))⟩
theorem xw106 (vS : Value) : ab_mw x_Ts xM106 := ⟨Or.inl ⟨rfl, tm 534 (by decide +kernel)⟩, tm 1 (by decide +kernel), by decide +kernel, ⟨by decide +kernel, by decide +kernel⟩, by decide +kernel, (fun h => absurd h (by decide)), (fun _ => tm 533 (by decide +kernel))⟩
theorem xw107 (vS : Value) : ab_mw x_Ts xM107 := ⟨Or.inl ⟨rfl, tm 538 (by decide +kernel)⟩, tm 1 (by decide +kernel), by decide +kernel, ⟨by decide +kernel, by decide +kernel⟩, by decide +kernel, (fun h => absurd h (by decide)), (fun _ => tm 537 (by decide +kernel))⟩
theorem xw108 (vS : Value) : ab_mw x_Ts xM108 := ⟨Or.inl ⟨rfl, tm 385 (by decide +kernel)⟩, tm 1 (by decide +kernel), by decide +kernel, ⟨by decide +kernel, by decide +kernel⟩, by decide +kernel, (fun h => absurd h (by decide)), (fun _ => tm 384 (by decide +kernel))⟩
theorem xw109 (vS : Value) : ab_mw x_Ts xM109 := ⟨Or.inl ⟨rfl, tm 515 (by decide +kernel)⟩, tm 1 (by decide +kernel), by decide +kernel, ⟨by decide +kernel, by decide +kernel⟩, by decide +kernel, (fun h => absurd h (by decide)), (fun _ => tm 514 (by decide +kernel))⟩
theorem xw110 (vS : Value) : ab_mw x_Ts xM110 := ⟨Or.inl ⟨rfl, tm 522 (by decide +kernel)⟩, tm 1 (by decide +kernel), by decide +kernel, ⟨by decide +kernel, by decide +kernel⟩, by decide +kernel, (fun h => absurd h (by decide)), (fun _ => tm 521 (by decide +kernel))⟩
theorem xw111 (vS : Value) : ab_mw x_Ts xM111 := ⟨Or.inl ⟨rfl, tm 526 (by decide +kernel)⟩, tm 1 (by decide +kernel), by decide +kernel, ⟨by decide +kernel, by decide +kernel⟩, by decide +kernel, (fun h => absurd h (by decide)), (fun _ => tm 525 (by decide +kernel))⟩
theorem xw112 (vS : Value) : ab_mw x_Ts xM112 := ⟨Or.inl ⟨rfl, tm 518 (by decide +kernel)⟩, tm 1 (by decide +kernel), by decide +kernel, ⟨by decide +kernel, by decide +kernel⟩, by decide +kernel, (fun _ => tm 517 (by decide +kernel)), (fun h => absurd h (by decide))⟩
theorem xw113 (vS : Value) : ab_mw x_Ts xM113 := ⟨Or.inl ⟨rfl, tm 409 (by decide +kernel)⟩, tm 1 (by decide +kernel), by decide +kernel, ⟨by decide +kernel, by decide +kernel⟩, by decide +kernel, (fun h => absurd h (by decide)), (fun _ => tm 408 (by decide +kernel))⟩
theorem xw114 (vS : Value) : ab_mw x_Ts xM114 := ⟨Or.inl ⟨rfl, tm 506 (by decide +kernel)⟩, tm 1 (by decide +kernel), by decide +kernel, ⟨by decide +kernel, by decide +kernel⟩, by decide +kernel, (fun h => absurd h (by decide)), (fun _ => tm 505 (by decide +kernel))⟩
theorem xw115 (vS : Value) : ab_mw x_Ts xM115 := ⟨Or.inl ⟨rfl, tm 530 (by decide +kernel)⟩, tm 1 (by decide +kernel), by decide +kernel, ⟨by decide +kernel, by decide +kernel⟩, by decide +kernel, (fun h => absurd h (by decide)), (fun _ => tm 529 (by decide +kernel))⟩
theorem xw116 (vS : Value) : ab_mw x_Ts xM116 := ⟨Or.inl ⟨rfl, tm 389 (by decide +kernel)⟩, tm 1 (by decide +kernel), by decide +kernel, ⟨by decide +kernel, by decide +kernel⟩, by decide +kernel, (fun h => absurd h (by decide)), (fun _ => tm 388 (by decide +kernel))⟩
theorem xw117 (vS : Value) : ab_mw x_Ts xM117 := ⟨Or.inl ⟨rfl, tm 414 (by decide +kernel)⟩, tm 18 (by decide +kernel), by decide +kernel, ⟨by decide +kernel, by decide +kernel⟩, by decide +kernel, (fun h => absurd h (by decide)), (fun _ => tm 413 (by decide +kernel))⟩
theorem xw118 (vS : Value) : ab_mw x_Ts xM118 := ⟨Or.inl ⟨rfl, tm 566 (by decide +kernel)⟩, tm 18 (by decide +kernel), by decide +kernel, ⟨by decide +kernel, by decide +kernel⟩, by decide +kernel, (fun h => absurd h (by decide)), (fun _ => tm 564 (by decide +kernel))⟩
theorem xw119 (vS : Value) : ab_mw x_Ts xM119 := ⟨Or.inl ⟨rfl, tm 619 (by decide +kernel)⟩, tm 18 (by decide +kernel), by decide +kernel, ⟨by decide +kernel, by decide +kernel⟩, by decide +kernel, (fun h => absurd h (by decide)), (fun _ => tm 617 (by decide +kernel))⟩
theorem xw120 (vS : Value) : ab_mw x_Ts xM120 := ⟨Or.inl ⟨rfl, tm 47 (by decide +kernel)⟩, tm 3 (by decide +kernel), by decide +kernel, ⟨by decide +kernel, by decide +kernel⟩, by decide +kernel, (fun h => absurd h (by decide)), (fun _ => tm 46 (by decide +kernel))⟩
theorem xw121 (vS : Value) : ab_mw x_Ts xM121 := ⟨Or.inl ⟨rfl, tm 277 (by decide +kernel)⟩, tm 3 (by decide +kernel), by decide +kernel, ⟨by decide +kernel, by decide +kernel⟩, by decide +kernel, (fun h => absurd h (by decide)), (fun _ => tm 275 (by decide +kernel))⟩
theorem xw122 (vS : Value) : ab_mw x_Ts xM122 := ⟨Or.inl ⟨rfl, tm 41 (by decide +kernel)⟩, tm 2 (by decide +kernel), by decide +kernel, ⟨by decide +kernel, by decide +kernel⟩, by decide +kernel, (fun h => absurd h (by decide)), (fun _ => tm 40 (by decide +kernel))⟩
theorem xw123 (vS : Value) : ab_mw x_Ts xM123 := ⟨Or.inl ⟨rfl, tm 218 (by decide +kernel)⟩, tm 2 (by decide +kernel), by decide +kernel, ⟨by decide +kernel, by decide +kernel⟩, by decide +kernel, (fun h => absurd h (by decide)), (fun _ => tm 216 (by decide +kernel))⟩
theorem xw124 (vS : Value) : ab_mw x_Ts xM124 := ⟨Or.inl ⟨rfl, tm 316 (by decide +kernel)⟩, tm 2 (by decide +kernel), by decide +kernel, ⟨by decide +kernel, by decide +kernel⟩, by decide +kernel, (fun h => absurd h (by decide)), (fun _ => tm 314 (by decide +kernel))⟩
theorem xw125 (vS : Value) : ab_mw x_Ts xM125 := ⟨Or.inl ⟨rfl, tm 258 (by decide +kernel)⟩, tm 2 (by decide +kernel), by decide +kernel, ⟨by decide +kernel, by decide +kernel⟩, by decide +kernel, (fun h => absurd h (by decide)), (fun _ => tm 256 (by decide +kernel))⟩
theorem xw126 (vS : Value) : ab_mw x_Ts xM126 := ⟨Or.inl ⟨rfl, tm 262 (by decide +kernel)⟩, tm 2 (by decide +kernel), by decide +kernel, ⟨by decide +kernel, by decide +kernel⟩, by decide +kernel, (fun h => absurd h (by decide)), (fun _ => tm 260 (by decide +kernel))⟩
theorem xw127 (vS : Value) : ab_mw x_Ts xM127 := ⟨Or.inl ⟨rfl, tm 284 (by decide +kernel)⟩, tm 2 (by decide +kernel), by decide +kernel, ⟨by decide +kernel, by decide +kernel⟩, by decide +kernel, (fun h => absurd h (by decide)), (fun _ => tm 283 (by decide +kernel))⟩
theorem xw128 (vS : Value) : ab_mw x_Ts xM128 := ⟨Or.inl ⟨rfl, tm 302 (by decide +kernel)⟩, tm 2 (by decide +kernel), by decide +kernel, ⟨by decide +kernel, by decide +kernel⟩, by decide +kernel, (fun h => absurd h (by decide)), (fun _ => tm 301 (by decide +kernel))⟩
theorem xw129 (vS : Value) : ab_mw x_Ts xM129 := ⟨Or.inl ⟨rfl, tm 360 (by decide +kernel)⟩, tm 2 (by decide +kernel), by decide +kernel, ⟨by decide +kernel, by decide +kernel⟩, by decide +kernel, (fun h => absurd h (by decide)), (fun _ => tm 359 (by decide +kernel))⟩
theorem xw130 (vS : Value) : ab_mw x_Ts xM130 := ⟨Or.inl ⟨rfl, tm 366 (by decide +kernel)⟩, tm 2 (by decide +kernel), by decide +kernel, ⟨by decide +kernel, by decide +kernel⟩, by decide +kernel, (fun h => absurd h (by decide)), (fun _ => tm 365 (by decide +kernel))⟩
theorem xw131 (vS : Value) : ab_mw x_Ts xM131 := ⟨Or.inl ⟨rfl, tm 370 (by decide +kernel)⟩, tm 2 (by decide +kernel), by decide +kernel, ⟨by decide +kernel, by decide +kernel⟩, by decide +kernel, (fun h => absurd h (by decide)), (fun _ => tm 369 (by decide +kernel))⟩
theorem xw132 (vS : Value) : ab_mw x_Ts xM132 := ⟨Or.inl ⟨rfl, tm 377 (by decide +kernel)⟩, tm 2 (by decide +kernel), by decide +kernel, ⟨by decide +kernel, by decide +kernel⟩, by decide +kernel, (fun h => absurd h (by decide)), (fun _ => tm 376 (by decide +kernel))⟩
theorem xw133 (vS : Value) : ab_mw x_Ts xM133 := ⟨Or.inl ⟨rfl, tm 266 (by decide +kernel)⟩, tm 2 (by decide +kernel), by decide +kernel, ⟨by decide +kernel, by decide +kernel⟩, by decide +kernel, (fun h => absurd h (by decide)), (fun _ => tm 265 (by decide +kernel))⟩
theorem xw134 (vS : Value) : ab_mw x_Ts xM134 := ⟨Or.inl ⟨rfl, tm 294 (by decide +kernel)⟩, tm 2 (by decide +kernel), by decide +kernel, ⟨by decide +kernel, by decide +kernel⟩, by decide +kernel, (fun h => absurd h (by decide)), (fun _ => tm 293 (by decide +kernel))⟩
theorem xw135 (vS : Value) : ab_mw x_Ts xM135 := ⟨Or.inl ⟨rfl, tm 270 (by decide +kernel)⟩, tm 2 (by decide +kernel), by decide +kernel, ⟨by decide +kernel, by decide +kernel⟩, by decide +kernel, (fun h => absurd h (by decide)), (fun _ => tm 269 (by decide +kernel))⟩
theorem xw136 (vS : Value) : ab_mw x_Ts xM136 := ⟨Or.inl ⟨rfl, tm 273 (by decide +kernel)⟩, tm 2 (by decide +kernel), by decide +kernel, ⟨by decide +kernel, by decide +kernel⟩, by decide +kernel, (fun _ => tm 272 (by decide +kernel)), (fun h => absurd h (by decide))⟩
theorem xw137 (vS : Value) : ab_mw x_Ts xM137 := ⟨Or.inl ⟨rfl, tm 297 (by decide +kernel)⟩, tm 2 (by decide +kernel), by decide +kernel, ⟨by decide +kernel, by decide +kernel⟩, by decide +kernel, (fun _ => tm 296 (by decide +kernel)), (fun h => absurd h (by decide))⟩
theorem xw138 (vS : Value) : ab_mw x_Ts xM138 := ⟨Or.inl ⟨rfl, tm 280 (by decide +kernel)⟩, tm 2 (by decide +kernel), by decide +kernel, ⟨by decide +kernel, by decide +kernel⟩, by decide +kernel, (fun _ => tm 279 (by decide +kernel)), (fun h => absurd h (by decide))⟩
theorem xw139 (vS : Value) : ab_mw x_Ts xM139 := ⟨Or.inl ⟨rfl, tm 290 (by decide +kernel)⟩, tm 2 (by decide +kernel), by decide +kernel, ⟨by decide +kernel, by decide +kernel⟩, by decide +kernel, (fun _ => tm 289 (by decide +kernel)), (fun h => absurd h (by decide))⟩
theorem xw140 (vS : Value) : ab_mw x_Ts xM140 := ⟨Or.inl ⟨rfl, tm 287 (by decide +kernel)⟩, tm 2 (by decide +kernel), by decide +kernel, ⟨by decide +kernel, by decide +kernel⟩, by decide +kernel, (fun _ => tm 286 (by decide +kernel)), (fun h => absurd h (by decide))⟩
theorem xw141 (vS : Value) : ab_mw x_Ts xM141 := ⟨Or.inl ⟨rfl, tm 373 (by decide +kernel)⟩, tm 2 (by decide +kernel), by decide +kernel, ⟨by decide +kernel, by decide +kernel⟩, by decide +kernel, (fun _ => tm 372 (by decide +kernel)), (fun h => absurd h (by decide))⟩
end
section
/-! what is fixed of the program; made by wip/whole/gen/tables.py -/
theorem x_ec {α : Type} {P : Nat → α → Prop} {a : α} {l : List α} (h0 : P 0 a) (ht : ∀ i r, l[i]? = some r → P (i + 1) r) : ∀ i r, (a :: l)[i]? = some r → P i r := by
  intro i r h
  cases i with
  | zero => cases h; exact h0
  | succ i => exact ht i r (by simpa using h)
theorem x_en {α : Type} {P : Nat → α → Prop} : ∀ i r, ([] : List α)[i]? = some r → P i r := by
  intro i r h
  simp at h
def x_pure (v : Value) : Bool := match v with
  | .ref _ => false
  | .float _ => false
  | _ => true
theorem x_pure_ok {v : Value} (h : x_pure v = true) (B : Nat) (od : Nat → Nat) : ab_v B od v = v := by
  cases v <;> first | rfl | (simp [x_pure] at h; done)
def x_csb (T : u_T) (Y : Nat → FieldType) (V : List Value) (N : Nat) : Bool := (List.range N).all (fun k => decide (parseFieldDescriptor (T k).2.2.1 = some (Y k)) && decide (defaultValue (Y k) = vp_V V k) && (List.range N).all (fun b => decide (k = b) || decide ((T k).2.1 ≠ (T b).2.1))) && decide (V.length = N) && V.all x_pure
theorem x_cs_of {T : u_T} {Y : Nat → FieldType} {V : List Value} {N : Nat} (h : x_csb T Y V N = true) : (∀ k, k < N → parseFieldDescriptor (T k).2.2.1 = some (Y k)) ∧ (∀ a, a < N → ∀ b, b < N → a ≠ b → (T a).2.1 ≠ (T b).2.1) ∧ (∀ j, j < N → defaultValue (Y j) = vp_V V j) ∧ V.length = N ∧ (∀ v ∈ V, ∀ (B : Nat) (od : Nat → Nat), ab_v B od v = v) := by
  simp only [x_csb, Bool.and_eq_true, List.all_eq_true, List.mem_range, decide_eq_true_eq, Bool.or_eq_true] at h
  obtain ⟨⟨h1, h2⟩, h3⟩ := h
  refine ⟨fun k hk => (h1 k hk).1.1, fun a ha b hb hab => ?_, fun j hj => (h1 j hj).1.2, h2, fun v hv B od => x_pure_ok (h3 v hv) B od⟩
  rcases (h1 a ha).2 b hb with q | q
  · exact absurd q hab
  · exact q
theorem x_us {L : List Jvm.Cond} (is : List Nat) (h : (L = is.filterMap (fun i => tables_1[i]?) ∧ L.all x_g = true)) : ∀ w ∈ L, w ∈ x_Ts := by
  intro w hw
  have h2 := List.all_eq_true.mp h.2 w hw
  rw [h.1] at hw
  obtain ⟨i, -, hi⟩ := List.mem_filterMap.mp hw
  exact tm i ⟨hi, h2⟩
theorem xq0 : x_csb xT0 xY0 [.null, .null, .int 0] 3 = true := by decide +kernel
theorem xu0 : ∀ w ∈ u_ws "NotationReader" xT0 3, w ∈ x_Ts := x_us [128, 130, 132] (by decide +kernel)
theorem xq1 : x_csb xT1 xY1 [.null, .null, .int 0, .int 0, .null, .null] 6 = true := by decide +kernel
theorem xu1 : ∀ w ∈ u_ws "NotationReader$Tape" xT1 6, w ∈ x_Ts := x_us [86, 88, 90, 92, 94, 96] (by decide +kernel)
theorem xq2 : x_csb xT2 xY2 [.int 0, .int 0, .int 0, .int 0, .int 0, .long 0] 6 = true := by decide +kernel
theorem xu2 : ∀ w ∈ u_ws "NotationReader$Token" xT2 6, w ∈ x_Ts := x_us [63, 65, 67, 69, 71, 73] (by decide +kernel)
theorem xq3 : x_csb xT3 xY3 [.int 0, .null, .int 0, .int 0, .null, .null, .int 0, .int 0, .int 0, .long 0, .null, .int 0, .int 0, .int 0, .int 0, .null, .null, .null, .null, .null, .null] 21 = true := by decide +kernel
theorem xu3 : ∀ w ∈ u_ws "NotationReaderModel" xT3 21, w ∈ x_Ts := x_us [706, 708, 710, 712, 714, 716, 718, 720, 722, 724, 726, 728, 730, 732, 734, 736, 738, 740, 742, 744, 746] (by decide +kernel)
theorem xq4 : x_csb xT4 xY4 [.null, .int 0, .int 0] 3 = true := by decide +kernel
theorem xu4 : ∀ w ∈ u_ws "java/util/ArrayList" xT4 3, w ∈ x_Ts := x_us [118, 120, 122] (by decide +kernel)
theorem xq5 : x_csb xT5 xY5 [] 0 = true := by decide +kernel
theorem xu5 : ∀ w ∈ u_ws "java/lang/IndexOutOfBoundsException" xT5 0, w ∈ x_Ts := x_us [] (by decide +kernel)
theorem xq6 : x_csb xT6 xY6 [] 0 = true := by decide +kernel
theorem xu6 : ∀ w ∈ u_ws "java/lang/IllegalArgumentException" xT6 0, w ∈ x_Ts := x_us [] (by decide +kernel)
theorem xq7 : x_csb xT7 xY7 [] 0 = true := by decide +kernel
theorem xu7 : ∀ w ∈ u_ws "java/lang/UnsupportedOperationException" xT7 0, w ∈ x_Ts := x_us [] (by decide +kernel)
theorem xq8 : x_csb xT8 xY8 [] 0 = true := by decide +kernel
theorem xu8 : ∀ w ∈ u_ws "java/util/NoSuchElementException" xT8 0, w ∈ x_Ts := x_us [] (by decide +kernel)
theorem xq9 : x_csb xT9 xY9 [.null, .int 0, .int 0, .int 0] 4 = true := by decide +kernel
theorem xu9 : ∀ w ∈ u_ws "java/lang/String" xT9 4, w ∈ x_Ts := x_us [1011, 1013, 1015, 1017] (by decide +kernel)
theorem xq10 : x_csb xT10 xY10 [.int 0, .int 0, .int 0, .int 0, .long 0, .int 0, .int 0] 7 = true := by decide +kernel
theorem xu10 : ∀ w ∈ u_ws "NotationReader$Node" xT10 7, w ∈ x_Ts := x_us [428, 430, 432, 434, 436, 438, 440] (by decide +kernel)
theorem xq11 : x_csb xT11 xY11 [.int 0, .int 0, .int 0, .long 0, .null, .null, .null, .null, .int 0] 9 = true := by decide +kernel
theorem xu11 : ∀ w ∈ u_ws "NotationReaderModel$Value" xT11 9, w ∈ x_Ts := x_us [1074, 1076, 1078, 1080, 1082, 1084, 1086, 1088, 1090] (by decide +kernel)
theorem xq12 : x_csb xT12 xY12 [.null, .int 0, .int 0, .int 0] 4 = true := by decide +kernel
theorem xu12 : ∀ w ∈ u_ws "java/lang/StringBuilder" xT12 4, w ∈ x_Ts := x_us [824, 826, 828, 830] (by decide +kernel)
theorem x_CS : ab_CS x_cl x_ct x_cd := x_ec (x_cs_of xq0) (x_ec (x_cs_of xq1) (x_ec (x_cs_of xq2) (x_ec (x_cs_of xq3) (x_ec (x_cs_of xq4) (x_ec (x_cs_of xq5) (x_ec (x_cs_of xq6) (x_ec (x_cs_of xq7) (x_ec (x_cs_of xq8) (x_ec (x_cs_of xq9) (x_ec (x_cs_of xq10) (x_ec (x_cs_of xq11) (x_ec (x_cs_of xq12) (x_en)))))))))))))
theorem x_US : ∀ (ci : Nat) (r : vw_C), x_cl[ci]? = some r → ∀ w ∈ u_ws r.1 r.2.1 r.2.2, w ∈ x_Ts := x_ec (xu0) (x_ec (xu1) (x_ec (xu2) (x_ec (xu3) (x_ec (xu4) (x_ec (xu5) (x_ec (xu6) (x_ec (xu7) (x_ec (xu8) (x_ec (xu9) (x_ec (xu10) (x_ec (xu11) (x_ec (xu12) (x_en)))))))))))))
theorem x_MW (vS : Value) : ∀ (j : Nat) (N : ab_M), (x_mt vS)[j]? = some N → j ≠ 0 → ab_mw x_Ts N := x_ec (fun h => absurd rfl h) (x_ec (fun _ => xw1 vS) (x_ec (fun _ => xw2 vS) (x_ec (fun _ => xw3 vS) (x_ec (fun _ => xw4 vS) (x_ec (fun _ => xw5 vS) (x_ec (fun _ => xw6 vS) (x_ec (fun _ => xw7 vS) (x_ec (fun _ => xw8 vS) (x_ec (fun _ => xw9 vS) (x_ec (fun _ => xw10 vS) (x_ec (fun _ => xw11 vS) (x_ec (fun _ => xw12 vS) (x_ec (fun _ => xw13 vS) (x_ec (fun _ => xw14 vS) (x_ec (fun _ => xw15 vS) (x_ec (fun _ => xw16 vS) (x_ec (fun _ => xw17 vS) (x_ec (fun _ => xw18 vS) (x_ec (fun _ => xw19 vS) (x_ec (fun _ => xw20 vS) (x_ec (fun _ => xw21 vS) (x_ec (fun _ => xw22 vS) (x_ec (fun _ => xw23 vS) (x_ec (fun _ => xw24 vS) (x_ec (fun _ => xw25 vS) (x_ec (fun _ => xw26 vS) (x_ec (fun _ => xw27 vS) (x_ec (fun _ => xw28 vS) (x_ec (fun _ => xw29 vS) (x_ec (fun _ => xw30 vS) (x_ec (fun _ => xw31 vS) (x_ec (fun _ => xw32 vS) (x_ec (fun _ => xw33 vS) (x_ec (fun _ => xw34 vS) (x_ec (fun _ => xw35 vS) (x_ec (fun _ => xw36 vS) (x_ec (fun _ => xw37 vS) (x_ec (fun _ => xw38 vS) (x_ec (fun _ => xw39 vS) (x_ec (fun _ => xw40 vS) (x_ec (fun _ => xw41 vS) (x_ec (fun _ => xw42 vS) (x_ec (fun _ => xw43 vS) (x_ec (fun _ => xw44 vS) (x_ec (fun _ => xw45 vS) (x_ec (fun _ => xw46 vS) (x_ec (fun _ => xw47 vS) (x_ec (fun _ => xw48 vS) (x_ec (fun _ => xw49 vS) (x_ec (fun _ => xw50 vS) (x_ec (fun _ => xw51 vS) (x_ec (fun _ => xw52 vS) (x_ec (fun _ => xw53 vS) (x_ec (fun _ => xw54 vS) (x_ec (fun _ => xw55 vS) (x_ec (fun _ => xw56 vS) (x_ec (fun _ => xw57 vS) (x_ec (fun _ => xw58 vS) (x_ec (fun _ => xw59 vS) (x_ec (fun _ => xw60 vS) (x_ec (fun _ => xw61 vS) (x_ec (fun _ => xw62 vS) (x_ec (fun _ => xw63 vS) (x_ec (fun _ => xw64 vS) (x_ec (fun _ => xw65 vS) (x_ec (fun _ => xw66 vS) (x_ec (fun _ => xw67 vS) (x_ec (fun _ => xw68 vS) (x_ec (fun _ => xw69 vS) (x_ec (fun _ => xw70 vS) (x_ec (fun _ => xw71 vS) (x_ec (fun _ => xw72 vS) (x_ec (fun _ => xw73 vS) (x_ec (fun _ => xw74 vS) (x_ec (fun _ => xw75 vS) (x_ec (fun _ => xw76 vS) (x_ec (fun _ => xw77 vS) (x_ec (fun _ => xw78 vS) (x_ec (fun _ => xw79 vS) (x_ec (fun _ => xw80 vS) (x_ec (fun _ => xw81 vS) (x_ec (fun _ => xw82 vS) (x_ec (fun _ => xw83 vS) (x_ec (fun _ => xw84 vS) (x_ec (fun _ => xw85 vS) (x_ec (fun _ => xw86 vS) (x_ec (fun _ => xw87 vS) (x_ec (fun _ => xw88 vS) (x_ec (fun _ => xw89 vS) (x_ec (fun _ => xw90 vS) (x_ec (fun _ => xw91 vS) (x_ec (fun _ => xw92 vS) (x_ec (fun _ => xw93 vS) (x_ec (fun _ => xw94 vS) (x_ec (fun _ => xw95 vS) (x_ec (fun _ => xw96 vS) (x_ec (fun _ => xw97 vS) (x_ec (fun _ => xw98 vS) (x_ec (fun _ => xw99 vS) (x_ec (fun _ => xw100 vS) (x_ec (fun _ => xw101 vS) (x_ec (fun _ => xw102 vS) (x_ec (fun _ => xw103 vS) (x_ec (fun _ => xw104 vS) (x_ec (fun _ => xw105 vS) (x_ec (fun _ => xw106 vS) (x_ec (fun _ => xw107 vS) (x_ec (fun _ => xw108 vS) (x_ec (fun _ => xw109 vS) (x_ec (fun _ => xw110 vS) (x_ec (fun _ => xw111 vS) (x_ec (fun _ => xw112 vS) (x_ec (fun _ => xw113 vS) (x_ec (fun _ => xw114 vS) (x_ec (fun _ => xw115 vS) (x_ec (fun _ => xw116 vS) (x_ec (fun _ => xw117 vS) (x_ec (fun _ => xw118 vS) (x_ec (fun _ => xw119 vS) (x_ec (fun _ => xw120 vS) (x_ec (fun _ => xw121 vS) (x_ec (fun _ => xw122 vS) (x_ec (fun _ => xw123 vS) (x_ec (fun _ => xw124 vS) (x_ec (fun _ => xw125 vS) (x_ec (fun _ => xw126 vS) (x_ec (fun _ => xw127 vS) (x_ec (fun _ => xw128 vS) (x_ec (fun _ => xw129 vS) (x_ec (fun _ => xw130 vS) (x_ec (fun _ => xw131 vS) (x_ec (fun _ => xw132 vS) (x_ec (fun _ => xw133 vS) (x_ec (fun _ => xw134 vS) (x_ec (fun _ => xw135 vS) (x_ec (fun _ => xw136 vS) (x_ec (fun _ => xw137 vS) (x_ec (fun _ => xw138 vS) (x_ec (fun _ => xw139 vS) (x_ec (fun _ => xw140 vS) (x_ec (fun _ => xw141 vS) (x_en))))))))))))))))))))))))))))))))))))))))))))))))))))))))))))))))))))))))))))))))))))))))))))))))))))))))))))))))))))))))))))))))))))))))))))))
theorem x_MS (vS : Value) : ∀ M ∈ x_mt vS, ab_ck M ∧ ∀ x n, my_p M x = some n → x_all vS (my_y M).cls x n := List.forall_mem_cons.mpr ⟨⟨xk0 vS, fun x n h => x_pool (xp0 vS) h⟩, List.forall_mem_cons.mpr ⟨⟨xk1 vS, fun x n h => x_pool (xp1 vS) h⟩, List.forall_mem_cons.mpr ⟨⟨xk2 vS, fun x n h => x_pool (xp2 vS) h⟩, List.forall_mem_cons.mpr ⟨⟨xk3 vS, fun x n h => x_pool (xp3 vS) h⟩, List.forall_mem_cons.mpr ⟨⟨xk4 vS, fun x n h => x_pool (xp4 vS) h⟩, List.forall_mem_cons.mpr ⟨⟨xk5 vS, fun x n h => x_pool (xp5 vS) h⟩, List.forall_mem_cons.mpr ⟨⟨xk6 vS, fun x n h => x_pool (xp6 vS) h⟩, List.forall_mem_cons.mpr ⟨⟨xk7 vS, fun x n h => x_pool (xp7 vS) h⟩, List.forall_mem_cons.mpr ⟨⟨xk8 vS, fun x n h => x_pool (xp8 vS) h⟩, List.forall_mem_cons.mpr ⟨⟨xk9 vS, fun x n h => x_pool (xp9 vS) h⟩, List.forall_mem_cons.mpr ⟨⟨xk10 vS, fun x n h => x_pool (xp10 vS) h⟩, List.forall_mem_cons.mpr ⟨⟨xk11 vS, fun x n h => x_pool (xp11 vS) h⟩, List.forall_mem_cons.mpr ⟨⟨xk12 vS, fun x n h => x_pool (xp12 vS) h⟩, List.forall_mem_cons.mpr ⟨⟨xk13 vS, fun x n h => x_pool (xp13 vS) h⟩, List.forall_mem_cons.mpr ⟨⟨xk14 vS, fun x n h => x_pool (xp14 vS) h⟩, List.forall_mem_cons.mpr ⟨⟨xk15 vS, fun x n h => x_pool (xp15 vS) h⟩, List.forall_mem_cons.mpr ⟨⟨xk16 vS, fun x n h => x_pool (xp16 vS) h⟩, List.forall_mem_cons.mpr ⟨⟨xk17 vS, fun x n h => x_pool (xp17 vS) h⟩, List.forall_mem_cons.mpr ⟨⟨xk18 vS, fun x n h => x_pool (xp18 vS) h⟩, List.forall_mem_cons.mpr ⟨⟨xk19 vS, fun x n h => x_pool (xp19 vS) h⟩, List.forall_mem_cons.mpr ⟨⟨xk20 vS, fun x n h => x_pool (xp20 vS) h⟩, List.forall_mem_cons.mpr ⟨⟨xk21 vS, fun x n h => x_pool (xp21 vS) h⟩, List.forall_mem_cons.mpr ⟨⟨xk22 vS, fun x n h => x_pool (xp22 vS) h⟩, List.forall_mem_cons.mpr ⟨⟨xk23 vS, fun x n h => x_pool (xp23 vS) h⟩, List.forall_mem_cons.mpr ⟨⟨xk24 vS, fun x n h => x_pool (xp24 vS) h⟩, List.forall_mem_cons.mpr ⟨⟨xk25 vS, fun x n h => x_pool (xp25 vS) h⟩, List.forall_mem_cons.mpr ⟨⟨xk26 vS, fun x n h => x_pool (xp26 vS) h⟩, List.forall_mem_cons.mpr ⟨⟨xk27 vS, fun x n h => x_pool (xp27 vS) h⟩, List.forall_mem_cons.mpr ⟨⟨xk28 vS, fun x n h => x_pool (xp28 vS) h⟩, List.forall_mem_cons.mpr ⟨⟨xk29 vS, fun x n h => x_pool (xp29 vS) h⟩, List.forall_mem_cons.mpr ⟨⟨xk30 vS, fun x n h => x_pool (xp30 vS) h⟩, List.forall_mem_cons.mpr ⟨⟨xk31 vS, fun x n h => x_pool (xp31 vS) h⟩, List.forall_mem_cons.mpr ⟨⟨xk32 vS, fun x n h => x_pool (xp32 vS) h⟩, List.forall_mem_cons.mpr ⟨⟨xk33 vS, fun x n h => x_pool (xp33 vS) h⟩, List.forall_mem_cons.mpr ⟨⟨xk34 vS, fun x n h => x_pool (xp34 vS) h⟩, List.forall_mem_cons.mpr ⟨⟨xk35 vS, fun x n h => x_pool (xp35 vS) h⟩, List.forall_mem_cons.mpr ⟨⟨xk36 vS, fun x n h => x_pool (xp36 vS) h⟩, List.forall_mem_cons.mpr ⟨⟨xk37 vS, fun x n h => x_pool (xp37 vS) h⟩, List.forall_mem_cons.mpr ⟨⟨xk38 vS, fun x n h => x_pool (xp38 vS) h⟩, List.forall_mem_cons.mpr ⟨⟨xk39 vS, fun x n h => x_pool (xp39 vS) h⟩, List.forall_mem_cons.mpr ⟨⟨xk40 vS, fun x n h => x_pool (xp40 vS) h⟩, List.forall_mem_cons.mpr ⟨⟨xk41 vS, fun x n h => x_pool (xp41 vS) h⟩, List.forall_mem_cons.mpr ⟨⟨xk42 vS, fun x n h => x_pool (xp42 vS) h⟩, List.forall_mem_cons.mpr ⟨⟨xk43 vS, fun x n h => x_pool (xp43 vS) h⟩, List.forall_mem_cons.mpr ⟨⟨xk44 vS, fun x n h => x_pool (xp44 vS) h⟩, List.forall_mem_cons.mpr ⟨⟨xk45 vS, fun x n h => x_pool (xp45 vS) h⟩, List.forall_mem_cons.mpr ⟨⟨xk46 vS, fun x n h => x_pool (xp46 vS) h⟩, List.forall_mem_cons.mpr ⟨⟨xk47 vS, fun x n h => x_pool (xp47 vS) h⟩, List.forall_mem_cons.mpr ⟨⟨xk48 vS, fun x n h => x_pool (xp48 vS) h⟩, List.forall_mem_cons.mpr ⟨⟨xk49 vS, fun x n h => x_pool (xp49 vS) h⟩, List.forall_mem_cons.mpr ⟨⟨xk50 vS, fun x n h => x_pool (xp50 vS) h⟩, List.forall_mem_cons.mpr ⟨⟨xk51 vS, fun x n h => x_pool (xp51 vS) h⟩, List.forall_mem_cons.mpr ⟨⟨xk52 vS, fun x n h => x_pool (xp52 vS) h⟩, List.forall_mem_cons.mpr ⟨⟨xk53 vS, fun x n h => x_pool (xp53 vS) h⟩, List.forall_mem_cons.mpr ⟨⟨xk54 vS, fun x n h => x_pool (xp54 vS) h⟩, List.forall_mem_cons.mpr ⟨⟨xk55 vS, fun x n h => x_pool (xp55 vS) h⟩, List.forall_mem_cons.mpr ⟨⟨xk56 vS, fun x n h => x_pool (xp56 vS) h⟩, List.forall_mem_cons.mpr ⟨⟨xk57 vS, fun x n h => x_pool (xp57 vS) h⟩, List.forall_mem_cons.mpr ⟨⟨xk58 vS, fun x n h => x_pool (xp58 vS) h⟩, List.forall_mem_cons.mpr ⟨⟨xk59 vS, fun x n h => x_pool (xp59 vS) h⟩, List.forall_mem_cons.mpr ⟨⟨xk60 vS, fun x n h => x_pool (xp60 vS) h⟩, List.forall_mem_cons.mpr ⟨⟨xk61 vS, fun x n h => x_pool (xp61 vS) h⟩, List.forall_mem_cons.mpr ⟨⟨xk62 vS, fun x n h => x_pool (xp62 vS) h⟩, List.forall_mem_cons.mpr ⟨⟨xk63 vS, fun x n h => x_pool (xp63 vS) h⟩, List.forall_mem_cons.mpr ⟨⟨xk64 vS, fun x n h => x_pool (xp64 vS) h⟩, List.forall_mem_cons.mpr ⟨⟨xk65 vS, fun x n h => x_pool (xp65 vS) h⟩, List.forall_mem_cons.mpr ⟨⟨xk66 vS, fun x n h => x_pool (xp66 vS) h⟩, List.forall_mem_cons.mpr ⟨⟨xk67 vS, fun x n h => x_pool (xp67 vS) h⟩, List.forall_mem_cons.mpr ⟨⟨xk68 vS, fun x n h => x_pool (xp68 vS) h⟩, List.forall_mem_cons.mpr ⟨⟨xk69 vS, fun x n h => x_pool (xp69 vS) h⟩, List.forall_mem_cons.mpr ⟨⟨xk70 vS, fun x n h => x_pool (xp70 vS) h⟩, List.forall_mem_cons.mpr ⟨⟨xk71 vS, fun x n h => x_pool (xp71 vS) h⟩, List.forall_mem_cons.mpr ⟨⟨xk72 vS, fun x n h => x_pool (xp72 vS) h⟩, List.forall_mem_cons.mpr ⟨⟨xk73 vS, fun x n h => x_pool (xp73 vS) h⟩, List.forall_mem_cons.mpr ⟨⟨xk74 vS, fun x n h => x_pool (xp74 vS) h⟩, List.forall_mem_cons.mpr ⟨⟨xk75 vS, fun x n h => x_pool (xp75 vS) h⟩, List.forall_mem_cons.mpr ⟨⟨xk76 vS, fun x n h => x_pool (xp76 vS) h⟩, List.forall_mem_cons.mpr ⟨⟨xk77 vS, fun x n h => x_pool (xp77 vS) h⟩, List.forall_mem_cons.mpr ⟨⟨xk78 vS, fun x n h => x_pool (xp78 vS) h⟩, List.forall_mem_cons.mpr ⟨⟨xk79 vS, fun x n h => x_pool (xp79 vS) h⟩, List.forall_mem_cons.mpr ⟨⟨xk80 vS, fun x n h => x_pool (xp80 vS) h⟩, List.forall_mem_cons.mpr ⟨⟨xk81 vS, fun x n h => x_pool (xp81 vS) h⟩, List.forall_mem_cons.mpr ⟨⟨xk82 vS, fun x n h => x_pool (xp82 vS) h⟩, List.forall_mem_cons.mpr ⟨⟨xk83 vS, fun x n h => x_pool (xp83 vS) h⟩, List.forall_mem_cons.mpr ⟨⟨xk84 vS, fun x n h => x_pool (xp84 vS) h⟩, List.forall_mem_cons.mpr ⟨⟨xk85 vS, fun x n h => x_pool (xp85 vS) h⟩, List.forall_mem_cons.mpr ⟨⟨xk86 vS, fun x n h => x_pool (xp86 vS) h⟩, List.forall_mem_cons.mpr ⟨⟨xk87 vS, fun x n h => x_pool (xp87 vS) h⟩, List.forall_mem_cons.mpr ⟨⟨xk88 vS, fun x n h => x_pool (xp88 vS) h⟩, List.forall_mem_cons.mpr ⟨⟨xk89 vS, fun x n h => x_pool (xp89 vS) h⟩, List.forall_mem_cons.mpr ⟨⟨xk90 vS, fun x n h => x_pool (xp90 vS) h⟩, List.forall_mem_cons.mpr ⟨⟨xk91 vS, fun x n h => x_pool (xp91 vS) h⟩, List.forall_mem_cons.mpr ⟨⟨xk92 vS, fun x n h => x_pool (xp92 vS) h⟩, List.forall_mem_cons.mpr ⟨⟨xk93 vS, fun x n h => x_pool (xp93 vS) h⟩, List.forall_mem_cons.mpr ⟨⟨xk94 vS, fun x n h => x_pool (xp94 vS) h⟩, List.forall_mem_cons.mpr ⟨⟨xk95 vS, fun x n h => x_pool (xp95 vS) h⟩, List.forall_mem_cons.mpr ⟨⟨xk96 vS, fun x n h => x_pool (xp96 vS) h⟩, List.forall_mem_cons.mpr ⟨⟨xk97 vS, fun x n h => x_pool (xp97 vS) h⟩, List.forall_mem_cons.mpr ⟨⟨xk98 vS, fun x n h => x_pool (xp98 vS) h⟩, List.forall_mem_cons.mpr ⟨⟨xk99 vS, fun x n h => x_pool (xp99 vS) h⟩, List.forall_mem_cons.mpr ⟨⟨xk100 vS, fun x n h => x_pool (xp100 vS) h⟩, List.forall_mem_cons.mpr ⟨⟨xk101 vS, fun x n h => x_pool (xp101 vS) h⟩, List.forall_mem_cons.mpr ⟨⟨xk102 vS, fun x n h => x_pool (xp102 vS) h⟩, List.forall_mem_cons.mpr ⟨⟨xk103 vS, fun x n h => x_pool (xp103 vS) h⟩, List.forall_mem_cons.mpr ⟨⟨xk104 vS, fun x n h => x_pool (xp104 vS) h⟩, List.forall_mem_cons.mpr ⟨⟨xk105 vS, fun x n h => x_pool (xp105 vS) h⟩, List.forall_mem_cons.mpr ⟨⟨xk106 vS, fun x n h => x_pool (xp106 vS) h⟩, List.forall_mem_cons.mpr ⟨⟨xk107 vS, fun x n h => x_pool (xp107 vS) h⟩, List.forall_mem_cons.mpr ⟨⟨xk108 vS, fun x n h => x_pool (xp108 vS) h⟩, List.forall_mem_cons.mpr ⟨⟨xk109 vS, fun x n h => x_pool (xp109 vS) h⟩, List.forall_mem_cons.mpr ⟨⟨xk110 vS, fun x n h => x_pool (xp110 vS) h⟩, List.forall_mem_cons.mpr ⟨⟨xk111 vS, fun x n h => x_pool (xp111 vS) h⟩, List.forall_mem_cons.mpr ⟨⟨xk112 vS, fun x n h => x_pool (xp112 vS) h⟩, List.forall_mem_cons.mpr ⟨⟨xk113 vS, fun x n h => x_pool (xp113 vS) h⟩, List.forall_mem_cons.mpr ⟨⟨xk114 vS, fun x n h => x_pool (xp114 vS) h⟩, List.forall_mem_cons.mpr ⟨⟨xk115 vS, fun x n h => x_pool (xp115 vS) h⟩, List.forall_mem_cons.mpr ⟨⟨xk116 vS, fun x n h => x_pool (xp116 vS) h⟩, List.forall_mem_cons.mpr ⟨⟨xk117 vS, fun x n h => x_pool (xp117 vS) h⟩, List.forall_mem_cons.mpr ⟨⟨xk118 vS, fun x n h => x_pool (xp118 vS) h⟩, List.forall_mem_cons.mpr ⟨⟨xk119 vS, fun x n h => x_pool (xp119 vS) h⟩, List.forall_mem_cons.mpr ⟨⟨xk120 vS, fun x n h => x_pool (xp120 vS) h⟩, List.forall_mem_cons.mpr ⟨⟨xk121 vS, fun x n h => x_pool (xp121 vS) h⟩, List.forall_mem_cons.mpr ⟨⟨xk122 vS, fun x n h => x_pool (xp122 vS) h⟩, List.forall_mem_cons.mpr ⟨⟨xk123 vS, fun x n h => x_pool (xp123 vS) h⟩, List.forall_mem_cons.mpr ⟨⟨xk124 vS, fun x n h => x_pool (xp124 vS) h⟩, List.forall_mem_cons.mpr ⟨⟨xk125 vS, fun x n h => x_pool (xp125 vS) h⟩, List.forall_mem_cons.mpr ⟨⟨xk126 vS, fun x n h => x_pool (xp126 vS) h⟩, List.forall_mem_cons.mpr ⟨⟨xk127 vS, fun x n h => x_pool (xp127 vS) h⟩, List.forall_mem_cons.mpr ⟨⟨xk128 vS, fun x n h => x_pool (xp128 vS) h⟩, List.forall_mem_cons.mpr ⟨⟨xk129 vS, fun x n h => x_pool (xp129 vS) h⟩, List.forall_mem_cons.mpr ⟨⟨xk130 vS, fun x n h => x_pool (xp130 vS) h⟩, List.forall_mem_cons.mpr ⟨⟨xk131 vS, fun x n h => x_pool (xp131 vS) h⟩, List.forall_mem_cons.mpr ⟨⟨xk132 vS, fun x n h => x_pool (xp132 vS) h⟩, List.forall_mem_cons.mpr ⟨⟨xk133 vS, fun x n h => x_pool (xp133 vS) h⟩, List.forall_mem_cons.mpr ⟨⟨xk134 vS, fun x n h => x_pool (xp134 vS) h⟩, List.forall_mem_cons.mpr ⟨⟨xk135 vS, fun x n h => x_pool (xp135 vS) h⟩, List.forall_mem_cons.mpr ⟨⟨xk136 vS, fun x n h => x_pool (xp136 vS) h⟩, List.forall_mem_cons.mpr ⟨⟨xk137 vS, fun x n h => x_pool (xp137 vS) h⟩, List.forall_mem_cons.mpr ⟨⟨xk138 vS, fun x n h => x_pool (xp138 vS) h⟩, List.forall_mem_cons.mpr ⟨⟨xk139 vS, fun x n h => x_pool (xp139 vS) h⟩, List.forall_mem_cons.mpr ⟨⟨xk140 vS, fun x n h => x_pool (xp140 vS) h⟩, List.forall_mem_cons.mpr ⟨⟨xk141 vS, fun x n h => x_pool (xp141 vS) h⟩, fun _ h => absurd h List.not_mem_nil⟩⟩⟩⟩⟩⟩⟩⟩⟩⟩⟩⟩⟩⟩⟩⟩⟩⟩⟩⟩⟩⟩⟩⟩⟩⟩⟩⟩⟩⟩⟩⟩⟩⟩⟩⟩⟩⟩⟩⟩⟩⟩⟩⟩⟩⟩⟩⟩⟩⟩⟩⟩⟩⟩⟩⟩⟩⟩⟩⟩⟩⟩⟩⟩⟩⟩⟩⟩⟩⟩⟩⟩⟩⟩⟩⟩⟩⟩⟩⟩⟩⟩⟩⟩⟩⟩⟩⟩⟩⟩⟩⟩⟩⟩⟩⟩⟩⟩⟩⟩⟩⟩⟩⟩⟩⟩⟩⟩⟩⟩⟩⟩⟩⟩⟩⟩⟩⟩⟩⟩⟩⟩⟩⟩⟩⟩⟩⟩⟩⟩⟩⟩⟩⟩⟩⟩⟩⟩⟩⟩⟩⟩
theorem x_GOOD : ∀ w ∈ x_Ts, ab_good w := fun w hw => by
  have h := (List.mem_filter.mp hw).2
  simp only [x_g, Bool.and_eq_true, Bool.or_eq_true] at h
  refine ⟨h.1, ?_⟩
  rcases h.2 with z | z
  · exact Or.inl z
  · right
    unfold x_fln at z
    split at z
    · exact ⟨_, _, _, _, _, _, rfl⟩
    · cases z
theorem x_SF (vS : Value) : ab_SF x_cl x_ct x_cd x_aty x_sb x_Ts (x_mt vS) := by
  refine ⟨fun t ci h => ?_, x_CS, x_GOOD, x_US, x_MW vS, fun M hM => ⟨(x_MS vS M hM).1, fun x n h => ?_⟩⟩
  · simp only [x_sb, List.mem_cons, List.not_mem_nil, or_false, Prod.mk.injEq] at h
    rcases h with ⟨rfl, rfl⟩ | ⟨rfl, rfl⟩ | ⟨rfl, rfl⟩
    · exact ⟨_, _, rfl, rfl, Or.inl rfl⟩
    · exact ⟨_, _, rfl, rfl, Or.inl rfl⟩
    · exact ⟨_, _, rfl, rfl, Or.inr (tm 1198 (by decide +kernel))⟩
  · have z := (x_MS vS M hM).2 x n h
    exact ⟨z.1, z.2.1, z.2.2.1, z.2.2.2.1, z.2.2.2.2.2.1, z.2.2.2.2.2.2.1⟩
theorem x_P9 (vS : Value) : ∀ M ∈ x_mt vS, ∀ x n, my_p M x = some n → ab_p9 x_cl x_Ts (my_y M).cls x n := fun M hM x n h => ((x_MS vS M hM).2 x n h).2.2.2.2.1
end
section
theorem x_IN : ∀ (ci : Nat) (r : vw_C), x_cl[ci]? = some r → ∃ n, Cond.instantiable r.1 n ∈ x_Ts := x_ec (⟨3, tm 30 (by decide +kernel)⟩) (x_ec (⟨6, tm 38 (by decide +kernel)⟩) (x_ec (⟨6, tm 44 (by decide +kernel)⟩) (x_ec (⟨21, tm 630 (by decide +kernel)⟩) (x_ec (⟨3, tm 100 (by decide +kernel)⟩) (x_ec (⟨6, tm 148 (by decide +kernel)⟩) (x_ec (⟨6, tm 228 (by decide +kernel)⟩) (x_ec (⟨6, tm 391 (by decide +kernel)⟩) (x_ec (⟨6, tm 577 (by decide +kernel)⟩) (x_ec (⟨4, tm 898 (by decide +kernel)⟩) (x_ec (⟨7, tm 411 (by decide +kernel)⟩) (x_ec (⟨9, tm 1052 (by decide +kernel)⟩) (x_ec (⟨4, tm 804 (by decide +kernel)⟩) (x_en)))))))))))))
theorem x_Tsok {b : Nat} {s : State} (hts : ∀ w ∈ lw_tbl, w.before #[Value.ref b] s = true) : ∀ w ∈ x_Ts, va_Nw w s := fun w hw => va_Nw.of (x_GOOD w hw).1 (hts w (List.mem_filter.mp hw).1)
theorem x_KC {b : Nat} {s : State} (hts : ∀ w ∈ lw_tbl, w.before #[Value.ref b] s = true) : ∃ D : va_G, ab_KC D x_cl s := by
  have hT : ∀ (A : Array Value), ∀ w ∈ x_Ts, w.before A s = true := fun A w hw => va_Nw.use (x_GOOD w hw).1 (x_Tsok hts w hw)
  have h1 : ∀ (ci : Nat), ∃ (cC : ClassId) (iS : Nat → Nat), ∀ (r : vw_C), x_cl[ci]? = some r → u_Kn s r.1 r.2.1 r.2.2 cC iS := by
    intro ci
    cases hr : x_cl[ci]? with
    | none => exact ⟨0, fun _ => 0, fun r h => by cases h⟩
    | some r =>
      obtain ⟨n, hn⟩ := x_IN ci r hr
      obtain ⟨cC, iS, h⟩ := u_known (hT #[]) (x_US ci r hr) (hT #[] _ hn)
      exact ⟨cC, iS, fun r' h' => by cases h'; exact h⟩
  refine ⟨(fun ci => (h1 ci).choose, fun ci => (h1 ci).choose_spec.choose), fun ci r hr => ⟨(h1 ci).choose_spec.choose_spec r hr, fun A w hw => hT A w (x_US ci r hr w hw)⟩⟩
theorem x_prim {b : Nat} {s : State} (hts : ∀ w ∈ lw_tbl, w.before #[Value.ref b] s = true) {ty : FieldType} (hw : Cond.arrayClass ty ∈ lw_tbl) : ∃ cA, ArrOfT s cA ty ∧ s.vm.findClass ("[" ++ ty.toString) = some cA ∧ (Cond.arrayClass ty).before #[] s = true := by
  obtain ⟨c, k, comp, h1, h2, h3⟩ := Cond.arrayClass_spec (hts _ hw)
  exact ⟨c, fun n z => ⟨fun k h => (by cases h), k, h2, comp, h3⟩, h1, hts _ hw⟩
theorem x_objs {b : Nat} {s : State} (hts : ∀ w ∈ lw_tbl, w.before #[Value.ref b] s = true) {C : String} (hw : Cond.arrayOver (.object C) ∈ lw_tbl) : ∃ cA, ArrOfT s cA (.object C) ∧ va_RA s cA (.object C) := by
  obtain ⟨comp, c, k, h1, h2, h3, h4, h5⟩ := Cond.arrayOver_spec (hts _ hw)
  exact ⟨c, fun n z => ⟨fun k h => (by cases h), k, h3, comp, h4⟩, k, comp, h3, h4, h1, h5⟩
theorem x_AOw : ∀ (t : Nat) (C : String), x_aty[t]? = some (.object C) → Cond.arrayOver (.object C) ∈ lw_tbl := by
  intro t C h
  have z : C = "java/lang/String" ∨ C = "NotationReaderModel$Value" ∨ C = "java/lang/Object" := by
    have := List.mem_of_getElem? h
    simp only [x_aty, List.mem_cons, List.not_mem_nil, or_false] at this
    rcases this with q | q | q | q | q | q <;> first | (cases q; done) | (cases q; simp; done)
  rcases z with rfl | rfl | rfl
  · exact tr 636 (by decide +kernel)
  · exact tr 685 (by decide +kernel)
  · exact tr 493 (by decide +kernel)
theorem x_KA {b : Nat} {s : State} (hts : ∀ w ∈ lw_tbl, w.before #[Value.ref b] s = true) : ∃ dA : Nat → ClassId, ab_KA dA x_aty s := by
  have h1 : ∀ (t : Nat), ∃ (cA : ClassId), ∀ (ty : FieldType), x_aty[t]? = some ty → ArrOfT s cA ty ∧ va_RA s cA ty ∧ ((∃ x, newarray.typeOf x = ty) → (Cond.arrayClass ty).before #[] s = true) := by
    intro t
    cases ht : x_aty[t]? with
    | none => exact ⟨0, fun ty h => by cases h⟩
    | some ty =>
      have hm := List.mem_of_getElem? ht
      simp only [x_aty, List.mem_cons, List.not_mem_nil, or_false] at hm
      rcases hm with rfl | rfl | rfl | hm
      · obtain ⟨cA, a1, a2, a3⟩ := x_prim hts (ty := .byte) (tr 76 (by decide +kernel))
        exact ⟨cA, fun ty h => by cases h; exact ⟨a1, a2, fun _ => a3⟩⟩
      · obtain ⟨cA, a1, a2, a3⟩ := x_prim hts (ty := .int) (tr 749 (by decide +kernel))
        exact ⟨cA, fun ty h => by cases h; exact ⟨a1, a2, fun _ => a3⟩⟩
      · obtain ⟨cA, a1, a2, a3⟩ := x_prim hts (ty := .long) (tr 1179 (by decide +kernel))
        exact ⟨cA, fun ty h => by cases h; exact ⟨a1, a2, fun _ => a3⟩⟩
      · have hC : ∃ C, ty = .object C := by rcases hm with rfl | rfl | rfl <;> exact ⟨_, rfl⟩
        obtain ⟨C, rfl⟩ := hC
        obtain ⟨cA, a1, a2⟩ := x_objs hts (x_AOw t C ht)
        refine ⟨cA, fun ty h => ?_⟩
        cases h
        refine ⟨a1, a2, fun ⟨x, hx⟩ => ?_⟩
        cases x <;> simp [newarray.typeOf] at hx
  exact ⟨fun t => (h1 t).choose, fun t ty ht => (h1 t).choose_spec ty ht⟩
theorem x_ncb : x_nc.all (fun q => (flatC x_nar).contains (.not (.castable (((x_cl[q.1]?).getD ("", xT0, 0)).1) (((x_cl[q.2]?).getD ("", xT0, 0)).1)))) = true := by decide +kernel
theorem x_NC {b : Nat} {s : State} {D : va_G} (h : x_nar.before #[Value.ref b] s = true) (hKC : ab_KC D x_cl s) : ab_NCs D x_nc s := by
  intro i j hij
  have z := List.all_eq_true.mp x_ncb (i, j) hij
  simp only [List.contains_iff_mem] at z
  obtain ⟨ci, cj, f1, f2, f3⟩ := va_Nc.of (flat_of_before _ h _ z)
  have hi : ∃ r, x_cl[i]? = some r := by
    simp only [x_nc, List.mem_cons, Prod.mk.injEq, List.not_mem_nil, or_false] at hij
    rcases hij with ⟨rfl, -⟩ | ⟨rfl, -⟩ | ⟨rfl, -⟩ | ⟨rfl, -⟩ | ⟨rfl, -⟩ | ⟨rfl, -⟩ | ⟨rfl, -⟩ | ⟨rfl, -⟩ | ⟨rfl, -⟩ | ⟨rfl, -⟩ | ⟨rfl, -⟩ | ⟨rfl, -⟩ <;> exact ⟨_, rfl⟩
  have hj : ∃ r, x_cl[j]? = some r := by
    simp only [x_nc, List.mem_cons, Prod.mk.injEq, List.not_mem_nil, or_false] at hij
    rcases hij with ⟨-, rfl⟩ | ⟨-, rfl⟩ | ⟨-, rfl⟩ | ⟨-, rfl⟩ | ⟨-, rfl⟩ | ⟨-, rfl⟩ | ⟨-, rfl⟩ | ⟨-, rfl⟩ | ⟨-, rfl⟩ | ⟨-, rfl⟩ | ⟨-, rfl⟩ | ⟨-, rfl⟩ <;> exact ⟨_, rfl⟩
  obtain ⟨r, hr⟩ := hi
  obtain ⟨r', hr'⟩ := hj
  rw [hr] at f1
  rw [hr'] at f2
  cases f1.symm.trans (hKC i r hr).1.2.1
  cases f2.symm.trans (hKC j r' hr').1.2.1
  exact f3
/-- the one static of which only 'a reference or null' is said -/
def x_vS (b : Nat) (s : State) : Value := match (Term.static "jdk/internal/util/Preconditions" "SIOOBE_FORMATTER" "Ljava/util/function/BiFunction;").eval #[Value.ref b] s none [] s with
  | some (.ref _) => .float 119
  | _ => .null
theorem x_F {b : Nat} {s : State} {vS : Value} {D : va_G} {dA : Nat → ClassId} (h : x_nar.before #[Value.ref b] s = true) (hts : ∀ w ∈ lw_tbl, w.before #[Value.ref b] s = true) (hKC : ab_KC D x_cl s) (hKA : ab_KA dA x_aty s) : ab_F D dA x_cl x_aty (x_od b s) x_Ts x_nc (x_mt vS) s := by
  refine ⟨x_Tsok hts, hKC, hKA, x_NC h hKC, fun t C ht => va_AO.of (hts _ (x_AOw t C ht)), fun M hM x a b' w hp => ?_⟩
  obtain ⟨t0, z1, z2, z3, tx, z4⟩ := ((x_MS vS M hM).2 x _ hp).2.2.2.2.2.2.2
  obtain ⟨o1, -, -⟩ := x_odw h z1 z2
  refine ⟨tx, vk_R.of (hts _ z4) ?_⟩
  rcases z3 with z3 | ⟨z3, z5⟩
  · rw [← z3]; exact o1
  · obtain ⟨a', c, cell, k, q1, -⟩ := Cond.exactly_spec (args := #[Value.ref b]) (first := s) (o := none) (s := s) (idx := []) (flat_of_before _ h _ z5)
    have z6 := flat_of_before _ h _ z3
    simp [Cond.before, Cond.holds, Cond.value, o1, q1] at z6
    rw [z6]; exact q1
theorem x_txf {w ci : Nat} {fs : List Value} (hw : x_oo w = some (ci, fs)) : ∃ q ∈ x_tx, q.1 = w ∧ ci = 9 ∧ fs = [.float (UInt32.ofNat q.2.1), .int 0] := by
  unfold x_oo at hw
  cases hf : x_tx.find? (fun q => q.1 == w) with
  | none => rw [hf] at hw; cases hw
  | some q =>
    rw [hf] at hw
    have h2 : q.1 = w := by have z := List.find?_some hf; simpa using z
    cases hw
    exact ⟨q, List.mem_of_find?_eq_some hf, h2, rfl, rfl⟩
theorem x_u32 {q : Nat × Nat × List Int32} (hq : q ∈ x_tx) : (UInt32.ofNat q.2.1).toNat = q.2.1 := by
  have z := List.all_eq_true.mp x_ttb q hq
  simp only [Bool.and_eq_true, decide_eq_true_eq, List.contains_iff_mem] at z
  exact UInt32.toNat_ofNat_of_lt' z.1.2
theorem x_OO {b : Nat} {s : State} (h : x_nar.before #[Value.ref b] s = true) : ab_OO s.heap.size (x_od b s) x_cl x_oo s s.heap := by
  intro w ci fs hw
  obtain ⟨q, hq, rfl, rfl, rfl⟩ := x_txf hw
  obtain ⟨a1, a2, a3, a4⟩ := x_str h hq
  refine ⟨_, rfl, a1, fun k v hk => ?_⟩
  match k, hk with
  | 0, hk =>
    cases hk
    refine ⟨by decide, ?_⟩
    show va_OF "java/lang/String" "value" "[B" (.ref (x_od b s (UInt32.ofNat q.2.1).toNat)) _ _ _ _
    rw [x_u32 hq]
    exact a3
  | 1, hk =>
    cases hk
    exact ⟨by decide, a2⟩
  | k + 2, hk => simp at hk
def x_oa (L : Nat) (xs : Nat → Int32) : Nat → Option (FieldType × Nat × (Nat → Value)) := fun w => if w = 0 then some (.int, L, fun j => .int (xs j)) else if w = 59 then some (.object "java/lang/Object", 0, fun _ => .null) else (x_tx.find? (fun q => q.2.1 == w)).map (fun q => (.byte, q.2.2.length, fun j => .int (q.2.2.getD j 0)))
theorem x_defb : (flatC x_nar).contains (.arrayOf (.static "java/util/ArrayList" "DEFAULTCAPACITY_EMPTY_ELEMENTDATA" "[Ljava/lang/Object;") (.object "java/lang/Object")) = true ∧ (flatC x_nar).contains (.eq (.length (.static "java/util/ArrayList" "DEFAULTCAPACITY_EMPTY_ELEMENTDATA" "[Ljava/lang/Object;")) (.int 0)) = true := by decide +kernel
theorem x_OA {b L : Nat} {xs : Nat → Int32} {s : State} (h : x_nar.before #[Value.ref b] s = true) (hb : b < s.heap.size) (hX : va_X b L xs s s.heap) : ab_OA s.heap.size (x_od b s) (x_oa L xs) s s.heap := by
  have hA : ∀ a : Nat, a < s.heap.size → ¬ s.heap.size ≤ a := fun a ha hn => by omega
  intro w t n f hw
  unfold x_oa at hw
  split at hw
  · rename_i h0
    subst h0
    cases hw
    obtain ⟨scr, g1, g2, g3, g4, g5⟩ := hX
    refine ⟨hb, scr, g1, g2, g3, ⟨Nat.le_of_eq g4.symm, by rw [g4]⟩, fun j hj => g5 j hj⟩
  · split at hw
    · rename_i h0
      subst h0
      cases hw
      obtain ⟨k1, k2⟩ := x_defb
      obtain ⟨t, ht, cell, c1, c2, c3, c4, c5, c6, c7⟩ := va_Tof (N := 0) (f := fun _ => .null) (A := fun q => s.heap.size ≤ q) (by omega) (flat_of_before _ h _ (by simpa using k1)) (va_eqt (flat_of_before _ h _ (by simpa using k2))) (fun j hj => by omega) hA
      rw [x_odv (w := 59) rfl ht]
      exact ⟨Nat.not_le.mp c7, cell, c1, c2, c3, ⟨c4, c5⟩, c6⟩
    · cases hf : x_tx.find? (fun q => q.2.1 == w) with
      | none => rw [hf] at hw; cases hw
      | some q =>
        rw [hf] at hw
        have h2 : q.2.1 = w := by have z := List.find?_some hf; simpa using z
        cases hw
        obtain ⟨-, -, -, cell, c1, c2, c3, c4, c5, c6, c7⟩ := x_str h (List.mem_of_find?_eq_some hf)
        rw [← h2]
        exact ⟨Nat.not_le.mp c7, cell, c1, c2, c3, ⟨c4, c5⟩, c6⟩
theorem x_txd : x_tx.all (fun q => x_tx.all (fun r => decide (q.1 = r.1) || decide (q.2.2 ≠ r.2.2))) = true := by decide +kernel
theorem x_inj {b : Nat} {s : State} (h : x_nar.before #[Value.ref b] s = true) : ∀ w w', (x_oo w).isSome = true → (x_oo w').isSome = true → x_od b s w = x_od b s w' → w = w' := by
  intro w w' hw hw' e
  obtain ⟨⟨ci, fs⟩, hz⟩ := Option.isSome_iff_exists.mp hw
  obtain ⟨⟨ci', fs'⟩, hz'⟩ := Option.isSome_iff_exists.mp hw'
  obtain ⟨q, hq, rfl, -, -⟩ := x_txf hz
  obtain ⟨q', hq', rfl, -, -⟩ := x_txf hz'
  have z := List.all_eq_true.mp (List.all_eq_true.mp x_txd q hq) q' hq'
  simp only [Bool.or_eq_true, decide_eq_true_eq] at z
  rcases z with z | z
  · exact z
  · exfalso
    obtain ⟨-, -, a3, a4⟩ := x_str h hq
    obtain ⟨-, -, b3, b4⟩ := x_str h hq'
    rw [← e] at b3
    obtain ⟨cf, k, i, f, cell, u1, u2, u3, u4, u5, -⟩ := a3
    obtain ⟨cf', k', i', f', cell', v1, v2, v3, v4, v5, -⟩ := b3
    cases u1.symm.trans v1
    cases u3.symm.trans v3
    have ea : x_od b s q.2.1 = x_od b s q'.2.1 := by
      have := u5.symm.trans v5
      simpa using this
    rw [← ea] at b4
    obtain ⟨c1, p1, p2, p3, p4, p5, p6, -⟩ := a4
    obtain ⟨c2, r1, r2, r3, r4, r5, r6, -⟩ := b4
    cases p1.symm.trans r1
    have z6 := List.all_eq_true.mp x_ttb q hq
    have z6' := List.all_eq_true.mp x_ttb q' hq'
    simp only [Bool.and_eq_true, decide_eq_true_eq, List.contains_iff_mem] at z6 z6'
    have el : q.2.2.length = q'.2.2.length := by
      have := p5.symm.trans r5
      exact (nI_eq (by omega) (by omega)).mp this
    apply z
    apply List.ext_getElem el
    intro j hj hj'
    have y1 := p6 j hj
    have y2 := r6 j hj'
    have y3 := y1.symm.trans y2
    have y4 : q.2.2.getD j 0 = q'.2.2.getD j 0 := by simpa using y3
    rw [List.getD_eq_getElem?_getD, List.getD_eq_getElem?_getD, List.getElem?_eq_getElem hj, List.getElem?_eq_getElem hj'] at y4
    exact y4
theorem x_SZ {b : Nat} {s : State} (h : x_nar.before #[Value.ref b] s = true) (hts : ∀ w ∈ lw_tbl, w.before #[Value.ref b] s = true) : ∀ M ∈ x_mt (x_vS b s), ab_SZ s.heap.size (x_od b s) x_Ts (my_y M).cls (my_p M) s s.heap := by
  have hA : ∀ a : Nat, a < s.heap.size → ¬ s.heap.size ≤ a := fun a ha hn => by omega
  intro M hM x a b' v hp
  rcases ((x_MS (x_vS b s) M hM).2 x _ hp).2.2.2.2.2.2.2 with ⟨z1, z2⟩ | ⟨z1, z2⟩ | ⟨z1, z2⟩
  · subst z1
    refine ⟨_, _, _, ?_, z2⟩
    exact va_Zof (hts _ (tr 112 (by decide +kernel))) (hts _ (tr 6 (by decide +kernel))) (x_odw h (w := 59) rfl (by decide +kernel)).1 hA
  · subst z1
    refine ⟨_, _, _, ?_, z2⟩
    exact va_Zof (hts _ (tr 312 (by decide +kernel))) (hts _ (tr 13 (by decide +kernel))) (va_eqi (flat_of_before _ h _ (by decide +kernel))) hA
  · subst z1
    refine ⟨_, _, _, ?_, z2⟩
    obtain ⟨v, hv, hr⟩ := Cond.isRef_spec (flat_of_before _ h (.isRef (.static "jdk/internal/util/Preconditions" "SIOOBE_FORMATTER" "Ljava/util/function/BiFunction;")) (by decide +kernel))
    have hZ : ab_v s.heap.size (x_od b s) (x_vS b s) = v := by
      unfold x_vS
      rw [hv]
      cases v with
      | ref a => show Value.ref (x_od b s 119) = .ref a; rw [x_odv (w := 119) rfl hv]
      | null => rfl
      | _ => cases hr
    rw [hZ]
    exact va_Zof (hts _ (tr 332 (by decide +kernel))) (hts _ (tr 15 (by decide +kernel))) hv hA
theorem x_MI {b : Nat} {s : State} {vS : Value} (h : x_nar.before #[Value.ref b] s = true) (hts : ∀ w ∈ lw_tbl, w.before #[Value.ref b] s = true) : ∀ M ∈ x_mt vS, ab_MI (x_od b s) x_aty x_Ts (my_y M).cls (my_p M) s := by
  have hmi : va_Mi "[Ljava/lang/Object;" (x_od b s 60) s := by
    obtain ⟨v, hv, -⟩ := Cond.isRef_spec (flat_of_before _ h (.isRef (.mirror "[Ljava/lang/Object;")) (by decide +kernel))
    obtain ⟨c, k, a, h1, h2, h3, rfl⟩ := Term.mirror_spec hv
    rw [x_odv (w := 60) rfl hv]
    exact ⟨c, k, h1, h2, h3⟩
  intro M hM
  refine ⟨fun x a b' w hp => ?_, fun x t b' w C hp ht => ?_⟩
  · obtain ⟨z1, z2⟩ := ((x_MS vS M hM).2 x _ hp).2.2.2.2.2.2.2
    exact ⟨_, by rw [z1]; exact hmi, z2⟩
  · obtain ⟨z1, z2, z3⟩ := ((x_MS vS M hM).2 x _ hp).2.2.2.2.2.2.2
    subst z2
    cases ht
    exact ⟨by rw [z1]; exact hmi, va_Dc.of (hts _ (tr 1193 (by decide +kernel)))⟩
theorem x_LS1 {b : Nat} {s : State} (h : x_nar.before #[Value.ref b] s = true) (hts : ∀ w ∈ lw_tbl, w.before #[Value.ref b] s = true) : ab_LS s.heap.size Bundle.tN "UNASSIGNED_STACK" Bundle.steD s s.heap := ab_LS.of (hts _ (tr 174 (by decide +kernel))) (flat_of_before _ h _ (by decide +kernel)) (Nat.le_refl _)
theorem x_LS2 {b : Nat} {s : State} (h : x_nar.before #[Value.ref b] s = true) (hts : ∀ w ∈ lw_tbl, w.before #[Value.ref b] s = true) : ab_LS s.heap.size Bundle.tN "SUPPRESSED_SENTINEL" Bundle.listD s s.heap := ab_LS.of (hts _ (tr 176 (by decide +kernel))) (flat_of_before _ h _ (by decide +kernel)) (Nat.le_refl _)
end
section
/-! the law's run on ONE script: the machine's own end -/
def z_sc : List Int32 := [0, 657468717, 1630350641, 658645024, 538976288, 538976288, 2, 0, 0, 0, 0, 0, 9, 1, 0, 0, 0, 0]
def z_zero (r : Option (ab_O × ab_H)) : Bool := match r with
  | some (.inl (some (.int v)), _) => v == 0
  | _ => false
theorem z_zero_ok {r : Option (ab_O × ab_H)} (h : z_zero r = true) : ∃ h', r = some (.inl (some (.int 0)), h') := by
  unfold z_zero at h
  split at h
  · rename_i v h'
    have e : v = 0 := by simpa using h
    subst e
    exact ⟨_, rfl⟩
  · cases h
theorem z_run1 : z_zero (ab_run x_cl x_ct x_cd x_aty (x_oa 18 (fun j => z_sc.getD j 0)) x_oo x_sb 601024 7293034 x_nc (x_mt .null) 100000 1000 0 0 [(0, .float 0)] [] []) = true := by decide +kernel
theorem z_run2 : z_zero (ab_run x_cl x_ct x_cd x_aty (x_oa 18 (fun j => z_sc.getD j 0)) x_oo x_sb 601024 7293034 x_nc (x_mt (.float 119)) 100000 1000 0 0 [(0, .float 0)] [] []) = true := by decide +kernel
theorem z_run (b : Nat) (s : State) : ∃ h', ab_run x_cl x_ct x_cd x_aty (x_oa 18 (fun j => z_sc.getD j 0)) x_oo x_sb 601024 7293034 x_nc (x_mt (x_vS b s)) 100000 1000 0 0 [(0, .float 0)] [] [] = some (.inl (some (.int 0)), h') := by
  have hv : x_vS b s = .float 119 ∨ x_vS b s = .null := by
    unfold x_vS
    split
    · exact Or.inl rfl
    · exact Or.inr rfl
  rcases hv with h | h
  · rw [h]; exact z_zero_ok z_run2
  · rw [h]; exact z_zero_ok z_run1
end
section
/-! from EVERY start that the Statement allows, with this script, the law returns and answers 0 -/
theorem x_nt {l : Launch} (hf : l.flags = flags0) : l.stackTraces = false := by
  unfold Launch.stackTraces
  rw [hf]
  decide
theorem z_start {p : Program} {e : Env} {s : State} {m : MethodId} {below : List Frame} {meth : Method} {c : Code} (l : Launch) (hnt : l.stackTraces = false) {b : Nat} (hx : p.tables.exec = Jvm.exec) (hcode : c.code = code) (hret : meth.sig.returnType = ret) (hml : c.maxLocals = 8) (hown : s.vm.findClass "NotationReaderLaw" = some m.cls) (hts : ∀ w ∈ lw_tbl, w.before #[Value.ref b] s = true) (hX : va_X b 18 (fun j => z_sc.getD j 0) s s.heap) (hb : b < s.heap.size) (hlk : meth.locks = false) (hnar : x_nar.before #[Value.ref b] s = true) (het : c.exceptionTable.isEmpty = true) (hnm : meth.name = "law") :
    W p l e room_1 s m #[Value.ref b] below meth c s.heap [] 0 0 (fun t => ∃ o, t.status = .running ∧ Ended t below o ∧ o = .returned (some (.int 0)) ∧ Framed s o t [] 601024 7293034) (entryFrame m ([Value.ref b] : List Value).toArray 8) := by
  obtain ⟨D, hKC⟩ := x_KC hts
  obtain ⟨dA, hKA⟩ := x_KA hts
  obtain ⟨h', hrun⟩ := z_run b s
  have hA : ab_A D dA x_cl x_aty (x_oa 18 (fun j => z_sc.getD j 0)) x_oo (x_od b s) x_Ts x_nc (x_mt (x_vS b s)) s.heap.size 601024 7293034 xM0 1000 room_1 s m meth c 0 0 := by
    refine ⟨hcode, hml, hret, hlk, hown, ?_, hnm, x_F hnar hts hKC hKA, x_OA hnar hb hX, by decide, by decide, by decide, by decide, x_LS1 hnar hts, x_LS2 hnar hts, x_OO hnar, x_SZ hnar hts, x_MI hnar hts⟩
    rw [Array.isEmpty_iff.mp het]
    rfl
  have hR : ab_R s.heap.size (x_od b s) D dA x_cl 601024 7293034 s.heap 0 0 [] s.heap [] 0 0 := ⟨fun k x h => by simp at h, rfl, va_S.rf, rfl, rfl, by decide, by decide⟩
  have hl0 := lv_entry ([Value.float 0].map (ab_v s.heap.size (x_od b s))) (n := 8) (by rw [ab_sl_map]; decide)
  rw [ab_args_map] at hl0
  have z := ab_sound (p := p) (l := l) (e := e) hx (x_SF (x_vS b s)) (x_inj hnar) (ab_TH_ok hx hnt (x_SF (x_vS b s)) (x_P9 (x_vS b s))) (ab_TH0_ok hx hnt (x_SF (x_vS b s)) (x_P9 (x_vS b s))) 100000 1000 0 0 [(0, .float 0)] [] [] h' (.inl (some (.int 0))) xM0 rfl hrun room_1 s m #[Value.ref b] below meth c s.heap [] 0 0 0 0 _ hA hR hl0
  intro T hT X
  have hE : entryFrame m ([Value.ref b] : List Value).toArray 8 = F0 m 0 ((lg_sl ([Value.float 0].map (ab_v s.heap.size (x_od b s))) ++ List.replicate (8 - (lg_sl ([Value.float 0].map (ab_v s.heap.size (x_od b s)))).length) Slot.unset).toArray) ([].map (ab_v s.heap.size (x_od b s))) := by
    show entryFrame m ([Value.float 0].map (ab_v s.heap.size (x_od b s))).toArray 8 = F0 m 0 _ []
    rw [lg_entry_eq]
  rw [hE]
  obtain ⟨t, st, h1, h2, h3, Lc, k, q, h4, h5⟩ := z T hT X
  refine ⟨t, st, _, h1, h2, rfl, ⟨_, rfl⟩, h3, ?_⟩
  have h6 : s.sameButNew ({ t with vm := s.vm } : State) [] k q := State.sameButNew.drop_fresh (L := []) (J := Lc) h4 (fun x hx => h5.2.2.1.2.2 x hx)
  exact h6.mono (by have := h5.2.2.2.1; have := h5.2.2.2.2.2.1; omega) (by have := h5.2.2.2.2.1; have := h5.2.2.2.2.2.2; omega)
def z_Q (_ : Array Value) (s : State) (o : Outcome) (t : State) : Prop := o = .returned (some (.int 0)) ∧ Framed s o t [] 601024 7293034
/-- THE REFUTATION, but for one thing: that there is a start with this script (witness_1 has one with a script of its own) -/
theorem law_answers_0 (l : Launch) (hfl : l.flags = flags0) (b : Addr) : MetFree l x (headSpec (Jvm.Cond.code x code maxLocals ret :: tables_1) room_1) (fun args s => args = #[.ref b] ∧ s.IntsAt b z_sc ∧ (Jvm.Cond.and given_1 narrow_1).before args s = true) (fun _ _ _ _ _ => True) z_Q := by
  refine MetFree.of_bodyS (code := code) (maxLocals := maxLocals) (ret := ret) (by decide) ?_ ?_
  · intro args s m h hn
    obtain ⟨meth, c, h1, h2, h3, h4, h5, h6, -, -⟩ := Cond.code_spec hn (atoms_spec (ws := Jvm.Cond.code x code maxLocals ret :: tables_1) h _ List.mem_cons_self)
    exact ⟨meth, c, h1, h2, h3, h4, h5, h6⟩
  · intro p e s m args below meth c s₁ B hml0 hP _
    obtain ⟨rfl, hx, hgv⟩ := hP
    obtain ⟨scr, harrAt, hlist, hof, hsmall⟩ := hx
    obtain ⟨hcb, hkn, -, -⟩ := State.arrayAt?_spec harrAt
    have hown : s.vm.findClass "NotationReaderLaw" = some m.cls := findClass_of_methodNamed B.named
    have hts0 : ∀ c ∈ (Jvm.Cond.code x code maxLocals ret :: tables_1), c.before #[Value.ref b] s = true := atoms_spec (ws := Jvm.Cond.code x code maxLocals ret :: tables_1) B.pre
    have hts : ∀ w ∈ lw_tbl, w.before #[Value.ref b] s = true := k2_hts_sels lw_privs (fun w hw => hts0 w (List.mem_cons_of_mem _ hw)) lw_privs_ok
    have hml : c.maxLocals = 8 := B.maxLocals_eq (hts0 _ List.mem_cons_self)
    have het : c.exceptionTable.isEmpty = true := by
      obtain ⟨meth', c', hm', hc', -, -, -, -, he', -⟩ := Cond.code_spec B.named (hts0 _ List.mem_cons_self)
      cases B.method.symm.trans hm'
      cases (Stand.of_body B).code.symm.trans hc'
      exact he'
    have hnm : meth.name = "law" := (name_of_methodNamed B.named B.method).1
    have X₀ : Stand p l e room_1 s m #[Value.ref b] below meth c s₁ [] 0 0 := Stand.of_body B
    have hh0 : s₁.heap = s.heap := by rw [B.state]; rfl
    have hsz : scr.slots.size = z_sc.length := by rw [← Array.length_toList, hlist, List.length_map]
    have hval : ∀ j : Nat, j < z_sc.length → scr.slots[j]? = some (.int (z_sc.getD j 0)) := fun j hj => by
      rw [← Array.getElem?_toList, hlist]
      simp [hj]
    have hbl : b < s.heap.size := (Array.getElem?_eq_some_iff.mp hcb).1
    have hX : va_X b 18 (fun j => z_sc.getD j 0) s s.heap := ⟨scr, hcb, hof, hkn, hsz, hval⟩
    have K : W p l e room_1 s m #[Value.ref b] below meth c s₁.heap [] 0 0 (fun t => ∃ o, t.status = .running ∧ Ended t below o ∧ z_Q #[Value.ref b] s o t) (entryFrame m ([Value.ref b] : List Value).toArray 8) := by
      rw [hh0]
      exact z_start l (x_nt hfl) B.exec B.bytes B.returns hml hown hts hX hbl B.notSynchronized hgv het hnm
    obtain ⟨t, a1, o, b1, b2, b3⟩ := K s₁ rfl X₀
    exact ⟨t, o, a1, b1, b2, b3⟩
end
section
/-! one start with this script is enough: then the claim is false -/
theorem z_len {t : State} {below : List Frame} {v : Option Value} (h : Ended t below (.returned v)) : t.frames.length = below.length := by
  unfold Ended at h
  dsimp only at h
  split at h
  · obtain ⟨c, i, n, -, -, h⟩ := h
    rw [h]; rfl
  · rw [h]; rfl
  · rw [h]; rfl
  · rw [h.2]
theorem z_notW {t : State} {below : List Frame} {o : Outcome} (h : Ended t below o) : ¬ Within t below := by
  rintro ⟨above, h1, h2, h3⟩
  cases o with
  | threw a =>
    have h4 : t.frames = [.throwing a] ++ below := h
    exact h3 a (List.append_cancel_right (h1.symm.trans h4))
  | returned v =>
    have h4 := z_len h
    rw [h1, List.length_append] at h4
    exact h2 (List.eq_nil_of_length_eq_zero (by omega))
theorem z_same {t : State} {below : List Frame} {o : Outcome} {w : Value} (h1 : Ended t below o) (h2 : Ended t below (.returned (some w))) : o = .returned (some w) := by
  have hl := z_len h2
  cases o with
  | threw a =>
    have h4 : t.frames = [.throwing a] ++ below := h1
    rw [h4, List.length_append] at hl
    simp at hl
  | returned v =>
    unfold Ended at h1 h2
    dsimp only at h1 h2
    split at h1
    · obtain ⟨c, i, n, -, -, f1⟩ := h1
      obtain ⟨c', i', n', -, -, f2⟩ := h2
      rw [f1] at f2
      simp only [List.cons.injEq, Frame.java.injEq, JFrame.mk.injEq] at f2
      have z : v.toList = (some w).toList := List.append_cancel_right f2.1.2.2.2.1
      cases v with
      | none => simp at z
      | some u => simp at z; rw [z]
    · rw [h1] at h2
      simp at h2
      rw [h2]
    · rw [h1] at h2
      simp at h2
      rw [h2]
    · rename_i n1 n2 n3
      split at h2
      · exact (n1 _ _ rfl).elim
      · exact (n2 _ _ rfl).elim
      · exact (n3 _ _ rfl).elim
      · cases h2.1
theorem claim_false_at_a_start {l : Launch} {p : Program} {e : Env} {s : State} {m : MethodId} {b : Addr} {below : List Frame} (hfl : l.flags = flags0) (hA : AtStart classFile x code maxLocals ret World_1 tables_1 room_1 Calls_1 rest_1 Pre_1 l p e s m #[.ref b] below) (hsc : s.IntsAt b z_sc) : ¬ (Claimed_1_1 ∧ Claimed_1_2) := by
  rintro ⟨-, hC⟩
  obtain ⟨hLs, hW, had, -, hfc, hfk, hfr, hfit, hhp, happ, hcalls, hrest, hpre⟩ := hA
  obtain ⟨n1, o1, w1, r1, e1, q1⟩ := hC l hfl hLs hW p e had hfc hfk s m #[.ref b] below hfr hfit hhp happ ⟨hcalls, hrest, hpre⟩
  obtain ⟨n2, o2, w2, r2, e2, q2⟩ := law_answers_0 l hfl b p e had hfc hfk s m #[.ref b] below hfr ((Spec.applies_iff_loose hfr).mp happ).1 ⟨rfl, hsc, hpre⟩ trivial
  have hn : n1 = n2 := by
    rcases Nat.lt_trichotomy n1 n2 with h | h | h
    · exact absurd (w2 n1 h) (z_notW e1)
    · exact h
    · exact absurd (w1 n2 h) (z_notW e2)
  subst hn
  obtain ⟨ho2, -⟩ := q2
  subst ho2
  have ho : o1 = .returned (some (.int 0)) := z_same e1 e2
  subst ho
  have z := Cond.after_iff.mp q1.1
  rw [show limb_1_2 = Cond.eq .result (.int 1) from rfl, Cond.eq_ints (x := 0) (y := 1) rfl rfl] at z
  exact absurd z (by decide)
end
section
/-! WHERE THERE IS A START AT ALL THERE IS ONE WITH THIS SCRIPT: a new row of ints behind the heap, the law called on it above a native method's frame, on a machine with that much more room. -/
def zs_tf : Term → Bool
  | .int _ => true
  | .string _ _ => true
  | .mirror _ => true
  | .static _ _ _ => true
  | .field t _ _ _ => zs_tf t
  | .length t => zs_tf t
  | .elem t i => zs_tf t && zs_tf i
  | _ => false
abbrev zs_T (s : State) (hp : Array Cell) (n : Nat) : State := { s with heap := hp, slotsUsed := n }
section
variable {s : State} {hp : Array Cell} {n : Nat} {A A' : Array Value}
theorem zs_arr (hh : ∀ (a : Addr) (c : Cell), s.heap[a]? = some c → hp[a]? = some c) {a : Addr} {c : Cell} (h : s.arrayAt? a = some c) : (zs_T s hp n).arrayAt? a = some c := by
  simp only [State.arrayAt?, Option.bind_eq_bind, Option.bind_eq_some_iff] at h ⊢
  obtain ⟨c1, h1, k, h2, h3⟩ := h
  exact ⟨c1, hh _ _ h1, k, h2, h3⟩
theorem zs_kt (ty : FieldType) : (zs_T s hp n).knowsType ty = s.knowsType ty := by
  induction ty with
  | array t ih => simpa only [State.knowsType] using ih
  | _ => rfl
theorem zs_t (hh : ∀ (a : Addr) (c : Cell), s.heap[a]? = some c → hp[a]? = some c) : ∀ (t : Term), zs_tf t = true → ∀ v, t.eval A s none [] s = some v → t.eval A' (zs_T s hp n) none [] (zs_T s hp n) = some v := by
  intro t
  induction t with
  | int x => intro _ v h; exact h
  | string c e => intro _ v h; exact h
  | mirror c => intro _ v h; exact h
  | static c nm d =>
    intro _ v h
    simp only [Term.eval, Option.bind_eq_bind, Option.bind_eq_some_iff] at h ⊢
    obtain ⟨q, h1, a, h2, cell, h3, h4⟩ := h
    exact ⟨q, h1, a, h2, cell, hh _ _ h3, h4⟩
  | field t cls nm d ih =>
    intro hk v h
    simp only [Term.eval, Option.bind_eq_bind, Option.bind_eq_some_iff] at h ⊢
    obtain ⟨w, h1, h2⟩ := h
    refine ⟨w, ih hk w h1, ?_⟩
    cases w with
    | ref a =>
      have h3 : s.fieldOf? a cls nm d = some v := h2
      show (zs_T s hp n).fieldOf? a cls nm d = some v
      simp only [State.fieldOf?, Option.bind_eq_bind, Option.bind_eq_some_iff] at h3 ⊢
      obtain ⟨cell, h4, q, h5, h6⟩ := h3
      exact ⟨cell, hh _ _ h4, q, h5, h6⟩
    | _ => exact h2
  | length t ih =>
    intro hk v h
    simp only [Term.eval, Option.bind_eq_bind, Option.bind_eq_some_iff] at h ⊢
    obtain ⟨w, h1, h2⟩ := h
    refine ⟨w, ih hk w h1, ?_⟩
    cases w with
    | ref a =>
      simp only [Option.bind_eq_some_iff] at h2 ⊢
      obtain ⟨cell, h3, h4⟩ := h2
      exact ⟨cell, zs_arr hh h3, h4⟩
    | _ => exact h2
  | elem t i iht ihi =>
    intro hk v h
    have hk' : zs_tf t = true ∧ zs_tf i = true := Bool.and_eq_true_iff.mp hk
    simp only [Term.eval, Option.bind_eq_bind, Option.bind_eq_some_iff] at h ⊢
    obtain ⟨w, h1, h2⟩ := h
    refine ⟨w, iht hk'.1 w h1, ?_⟩
    cases w with
    | ref a =>
      simp only [Option.bind_eq_some_iff] at h2 ⊢
      obtain ⟨u, h3, h4⟩ := h2
      refine ⟨u, ihi hk'.2 u h3, ?_⟩
      cases u with
      | int j =>
        dsimp only at h4 ⊢
        split at h4
        · cases h4
        · rename_i hj
          rw [if_neg hj]
          simp only [Option.bind_eq_some_iff] at h4 ⊢
          obtain ⟨cell, h5, h6⟩ := h4
          exact ⟨cell, zs_arr hh h5, h6⟩
      | _ => exact h4
    | _ => exact h2
  | _ => intro hk; exact absurd (show false = true from hk) Bool.false_ne_true
def zs_cf : Jvm.Cond → Bool
  | .eq a b => zs_tf a && zs_tf b
  | .isRef t => zs_tf t
  | .arrayOf t _ => zs_tf t
  | .exactly t _ => zs_tf t
  | .not (.castable _ _) => true
  | .stringRef _ _ _ => true
  | .laysStatic _ _ _ => true
  | .arrayClass _ => true
  | .arrayOver _ => true
  | c => c.tables
theorem zs_b {c : Jvm.Cond} {B : Array Value} {u : State} : c.before B u = true ↔ c.value B u none u [] = some true := by
  simp [Cond.before, Cond.holds]
theorem zs_c (hh : ∀ (a : Addr) (c : Cell), s.heap[a]? = some c → hp[a]? = some c) : ∀ c : Jvm.Cond, zs_cf c = true → c.before A s = true → c.before A' (zs_T s hp n) = true := by
  intro c hc h
  cases c with
  | eq a b =>
    have hc' : zs_tf a = true ∧ zs_tf b = true := Bool.and_eq_true_iff.mp hc
    rw [zs_b] at h ⊢
    simp only [Cond.value] at h ⊢
    cases ha : a.eval A s none [] s with
    | none => rw [ha] at h; cases h
    | some va =>
      cases hb : b.eval A s none [] s with
      | none => rw [ha, hb] at h; cases va <;> cases h
      | some vb =>
        rw [ha, hb] at h
        rw [zs_t hh a hc'.1 va ha, zs_t hh b hc'.2 vb hb]
        exact h
  | isRef t =>
    rw [zs_b] at h ⊢
    simp only [Cond.value] at h ⊢
    cases ht : t.eval A s none [] s with
    | none => rw [ht] at h; cases h
    | some v => rw [ht] at h; rw [zs_t hh t hc v ht]; exact h
  | arrayOf t ty =>
    rw [zs_b] at h ⊢
    simp only [Cond.value] at h ⊢
    have hk : (zs_T s hp n).knowsType ty = s.knowsType ty := zs_kt ty
    rw [hk]
    split at h
    · cases h
    · rename_i h0
      rw [if_neg h0]
      cases ht : t.eval A s none [] s with
      | none => rw [ht] at h; cases h
      | some v =>
        rw [ht] at h
        rw [zs_t hh t hc v ht]
        cases v with
        | ref a =>
          simp only [Option.bind_eq_bind, Option.bind_eq_some_iff] at h ⊢
          obtain ⟨cell, h1, h2⟩ := h
          exact ⟨cell, hh _ _ h1, h2⟩
        | _ => exact h
  | exactly t cls =>
    rw [zs_b] at h ⊢
    simp only [Cond.value] at h ⊢
    cases ht : t.eval A s none [] s with
    | none => rw [ht] at h; cases h
    | some v =>
      rw [ht] at h
      rw [zs_t hh t hc v ht]
      cases v with
      | ref a =>
        cases hf : s.vm.findClass cls with
        | none => rw [hf] at h; cases h
        | some q =>
          rw [hf] at h
          simp only [hf, Option.bind_eq_bind, Option.bind_eq_some_iff] at h ⊢
          obtain ⟨cell, h1, h2⟩ := h
          exact ⟨cell, hh _ _ h1, h2⟩
      | _ => cases hf : s.vm.findClass cls <;> rw [hf] at h <;> cases h
  | laysStatic ow nm d =>
    obtain ⟨q, k, i, f, a, cell, h1, h2, h3, h4, h5, h6, h7, h8, h9⟩ := Cond.laysStatic_spec h
    have h2' : (zs_T s hp n).fieldFound? ow nm d = some (q, k, i, f) := h2
    have h5' : hp[a]? = some cell := hh _ _ h5
    rw [zs_b]
    simp [Cond.value, h1, h2', h3, h4, h5', h6, h7, h8, h9]
  | not c =>
    cases c with
    | castable a b => exact h
    | _ => exact absurd (show false = true from hc) Bool.false_ne_true
  | stringRef => exact h
  | arrayClass => exact h
  | arrayOver => exact h
  | _ => first | exact absurd (show false = true from hc) Bool.false_ne_true | exact h
theorem zs_flat {B : Array Value} {u : State} (T : Jvm.Cond) : (∀ c ∈ flatC T, c.before B u = true) → T.before B u = true := by
  induction T with
  | and a b iha ihb =>
    intro h
    rw [Cond.before_and, Bool.and_eq_true]
    exact ⟨iha fun c hc => h c (List.mem_append.mpr (Or.inl hc)), ihb fun c hc => h c (List.mem_append.mpr (Or.inr hc))⟩
  | _ => intro h; exact h _ (List.mem_singleton.mpr rfl)
end
theorem zs_nar : (flatC narrow_1).all (fun c => zs_cf c || decide (c = .arrayOf (.arg 0) .int) || decide (c = .le (.length (.arg 0)) (.int 3072))) = true := by decide +kernel
theorem zs_tab : (Jvm.Cond.code x code maxLocals ret :: tables_1).all zs_cf = true := by decide +kernel
theorem zs_in : (flatC narrow_1).contains (.arrayOf (.arg 0) .int) = true := by decide +kernel
end
section
/-! THE REFUTATION: the claim is false where its own witness stands (witness_1 : WitnessClaimed_1) -/
theorem zs_false {l : Launch} {p : Program} {e : Env} {s : State} {m : MethodId} {b : Addr} {below : List Frame} (hfl : l.flags = flags0) (hLs : Lists l classFile x code maxLocals ret tables_1 room_1) (hW : World_1 l) (had : l.admits e) (hfc : FairCas e.choices) (hfk : FairClock e.choices) (hfr : s.frames = Frame.invoking m #[.ref b] :: below) (hfit : argsFit s.vm m #[.ref b] = true) (hhp : heapFits s = true) (happ : (headSpec (Jvm.Cond.code x code maxLocals ret :: tables_1) room_1).applies x e.platform s = true) (hrest : rest_1 p.tables e #[.ref b] s) (hpre : Pre_1 p.tables e #[.ref b] s) (hsc : s.IntsAt b z_sc) : ¬ Claimed_1_2 := by
  intro hC
  obtain ⟨n1, o1, w1, r1, e1, q1⟩ := hC l hfl hLs hW p e had hfc hfk s m #[.ref b] below hfr hfit hhp happ ⟨trivial, hrest, hpre⟩
  obtain ⟨n2, o2, w2, r2, e2, q2⟩ := law_answers_0 l hfl b p e had hfc hfk s m #[.ref b] below hfr ((Spec.applies_iff_loose hfr).mp happ).1 ⟨rfl, hsc, hpre⟩ trivial
  have hn : n1 = n2 := by
    rcases Nat.lt_trichotomy n1 n2 with h | h | h
    · exact absurd (w2 n1 h) (z_notW e1)
    · exact h
    · exact absurd (w1 n2 h) (z_notW e2)
  subst hn
  obtain ⟨ho2, -⟩ := q2
  subst ho2
  have ho : o1 = .returned (some (.int 0)) := z_same e1 e2
  subst ho
  have z := Cond.after_iff.mp q1.1
  rw [show limb_1_2 = Cond.eq .result (.int 1) from rfl, Cond.eq_ints (x := 0) (y := 1) rfl rfl] at z
  exact absurd z (by decide)
theorem zs_fit {vm : Vm} {m : MethodId} {b b' : Addr} (h : argsFit vm m #[.ref b] = true) : argsFit vm m #[.ref b'] = true := by
  unfold argsFit at h ⊢
  cases hm : (vm.classes[m.cls]?).bind (·.methods[m.idx]?) with
  | none => rw [hm] at h; cases h
  | some meth =>
    rw [hm] at h
    dsimp only at h ⊢
    cases hs : meth.isStatic with
    | true =>
      rw [hs] at h
      have h1 : kindsFit meth.sig.parameters [Value.ref b] = true := h
      show kindsFit meth.sig.parameters [Value.ref b'] = true
      revert h1
      cases meth.sig.parameters with
      | nil => intro h1; cases h1
      | cons t ts =>
        intro h1
        have h2 : (kindFits t (.ref b) && kindsFit ts []) = true := h1
        show (kindFits t (.ref b') && kindsFit ts []) = true
        rw [show kindFits t (.ref b') = kindFits t (.ref b) by cases t <;> rfl]
        exact h2
    | false => rw [hs] at h; exact h
theorem zs_adm {l : Launch} {e : Env} (h : l.admits e) (c n : Nat) : l.admits { e with platform := { e.platform with maxCells := e.platform.maxCells + c, maxSlots := e.platform.maxSlots + n } } := by
  obtain ⟨h1, h2, h3, h4, h5, h6, h7, h8, h9⟩ := h
  refine ⟨h1, h2, h3, h4, ?_, h6, Nat.le_trans h7 (Nat.le_add_right _ _), Nat.le_trans h8 (Nat.le_add_right _ _), h9⟩
  exact (congrArg (fun P : Platform => { P with maxCells := P.maxCells + c, maxSlots := P.maxSlots + n }) h5)
def zs_nc (c : ClassId) : Cell := { cls := c, slots := (z_sc.map Value.int).toArray }
def zs_s (s : State) (m : MethodId) (c : ClassId) : State := (zs_T s (s.heap.push (zs_nc c)) (s.slotsUsed + z_sc.length)).setFrames [.invoking m #[.ref s.heap.size], .native { method := m, args := #[] }]
section
variable {s : State} {m : MethodId} {c : ClassId} {k : Jvm.Class} {comp : ClassId} {A A' : Array Value}
theorem zs_keep {w : Jvm.Cond} (h : zs_cf w = true) (hb : w.before A s = true) : w.before A' (zs_s s m c) = true := by
  unfold zs_s
  rw [Cond.before_setFrames]
  refine zs_c (fun a q hq => ?_) w h hb
  have hlt := (Array.getElem?_eq_some_iff.mp hq).1
  rw [Array.getElem?_push, if_neg (by omega)]
  exact hq
theorem zs_ints (hk : s.vm.classes[c]? = some k) (hkind : k.kind = .array comp .int) : (zs_s s m c).IntsAt s.heap.size z_sc := by
  refine ⟨zs_nc c, ?_, by simp [zs_nc], ⟨fun q h => VmData.noConfusion (show VmData.none = VmData.statics q from h), k, hk, comp, hkind⟩, by decide⟩
  have h1 : (zs_s s m c).heap[s.heap.size]? = some (zs_nc c) := by
    show (s.heap.push (zs_nc c))[s.heap.size]? = some (zs_nc c)
    simp
  have h2 : (zs_s s m c).vm.classes[(zs_nc c).cls]? = some k := hk
  have h3 : (zs_nc c).vm = .none := rfl
  simp [State.arrayAt?, h1, h2, hkind, h3, VmData.isStatics]
theorem zs_hf (hk : s.vm.classes[c]? = some k) (hkind : k.kind = .array comp .int) (h : heapFits s = true) : heapFits (zs_s s m c) = true := by
  unfold heapFits at h ⊢
  show (s.heap.push (zs_nc c)).all (cellFits s) = true
  have hn : cellFits s (zs_nc c) = true := by
    unfold cellFits
    rw [List.all_eq_true]
    intro i _
    split
    · rename_i v hv
      have hm := Array.mem_of_getElem? hv
      have hx : ∃ q, v = Value.int q := by
        simp only [zs_nc, List.mem_toArray, List.mem_map] at hm
        obtain ⟨q, -, rfl⟩ := hm
        exact ⟨q, rfl⟩
      obtain ⟨q, rfl⟩ := hx
      simp [State.fitsSlot, State.slotType?, zs_nc, hk, hkind, fits]
    · rfl
  rw [Array.all_push, h, hn]
  rfl
end
end
section
/-- THE CLAIM IS FALSE: its own witness, witness_1, is the premise -/
theorem refuted_where_witnessed (hw : WitnessClaimed_1) : ¬ Claimed_1_2 := by
  obtain ⟨p, e, s, m, args, below, hLs, hW, had, -, hfc, hfk, hfr, hfit, hhp, happ, -, hrest, hpre⟩ := hw
  have hpre' : (Jvm.Cond.and given_1 narrow_1).before args s = true := hpre
  rw [Cond.before_and, Bool.and_eq_true] at hpre'
  obtain ⟨hgiv, hnar⟩ := hpre'
  have hrest' : rest_1_c.before args s = true := hrest
  rw [rest_1_c, Cond.before_and, Bool.and_eq_true] at hrest'
  have hnf := flat_of_before _ hnar
  have harr : (Jvm.Cond.arrayOf (.arg 0) .int).before args s = true := hnf _ (List.contains_iff_mem.mp zs_in)
  obtain ⟨b, xs, hb, hI⟩ := State.ints_of_pre (t := .arg 0) rfl harr hrest'.1 hrest'.2
  obtain ⟨cell, hc1, hc2, ⟨hc3, k, hk, comp, hkind⟩, hc4⟩ := hI
  have hcnt : args.size = 1 := by
    have h : (Jvm.Cond.count 1).before args s = true := flat_of_before _ hgiv _ (by decide)
    rw [zs_b] at h
    simpa [Cond.value] using h
  have hargs : args = #[.ref b] := args1'' hcnt hb
  subst hargs
  have hcur : s.cur < s.threads.size := by
    rcases Nat.lt_or_ge s.cur s.threads.size with h | h
    · exact h
    · exfalso
      unfold State.frames at hfr
      rw [Array.getElem?_eq_none h] at hfr
      cases hfr
  unfold Spec.applies at happ
  rw [hfr] at happ
  simp only [Bool.and_eq_true, decide_eq_true_eq] at happ
  obtain ⟨⟨⟨⟨⟨⟨⟨a1, a2⟩, a3⟩, a4⟩, a5⟩, a6⟩, a7⟩, a8⟩ := happ
  have hts : ∀ w ∈ (Jvm.Cond.code x code maxLocals ret :: tables_1), w.before #[Value.ref b] s = true := atoms_spec (ws := Jvm.Cond.code x code maxLocals ret :: tables_1) a8
  obtain ⟨meth, cd, hm1, hm2, -, hm3, -⟩ := Cond.code_spec a4 (hts _ List.mem_cons_self)
  unfold State.hasRoom at a7
  simp only [Bool.and_eq_true, decide_eq_true_eq] at a7
  obtain ⟨⟨⟨⟨r0, r1⟩, r2⟩, r3⟩, r4⟩ := a7
  unfold State.ripe at a6
  rw [Bool.and_eq_true] at a6
  have hfr' : (zs_s s m cell.cls).frames = Frame.invoking m #[.ref s.heap.size] :: [.native { method := m, args := #[] }] := by
    unfold zs_s
    exact State.frames_setFrames _ hcur
  have hI' : (zs_s s m cell.cls).IntsAt s.heap.size z_sc := zs_ints hk hkind
  have hmx : maxLocals ≤ 64 := by decide
  have hlo : (zs_s s m cell.cls).localsInUse = 2048 + (maxLocals + 11) := by
    unfold State.localsInUse
    rw [hfr']
    show 2048 + ((((s.vm.method? m).bind (·.code)).map (·.maxLocals)).getD 0 + 11) = _
    rw [hm1]
    simp [hm2, hm3]
  have hsb : (zs_s s m cell.cls).me.stackBytes = 0 := by
    unfold zs_s
    rw [State.stackBytes_setFrames]
    exact r1.2.2.2.2
  have hsl : ∀ P : Platform, P.stackLimits (zs_s s m cell.cls).me = (P.maxFrames, P.maxStackSlots) := by
    intro P
    simp [Platform.stackLimits, Platform.limitsFor, hsb]
  have f1 : 4096 ≤ e.platform.maxFrames := had.2.2.2.2.2.1
  have f2 : 106760 ≤ e.platform.maxStackSlots := had.2.2.2.2.2.2.2.2.2.2.2.2.1
  refine zs_false (l := launch0) (p := p) (e := { e with platform := { e.platform with maxCells := e.platform.maxCells + 1, maxSlots := e.platform.maxSlots + z_sc.length } }) (s := zs_s s m cell.cls) (m := m) (b := s.heap.size) rfl hLs hW (zs_adm had 1 z_sc.length) hfc hfk hfr' (zs_fit hfit) (zs_hf hk hkind hhp) ?_ ?_ ?_ hI'
  · unfold Spec.applies
    rw [hfr']
    simp only [Bool.and_eq_true, decide_eq_true_eq]
    refine ⟨⟨⟨⟨⟨⟨⟨a1, ?_⟩, ?_⟩, a4⟩, rfl⟩, ?_⟩, ?_⟩, ?_⟩
    · unfold zs_s
      rw [State.curStatus?_setFrames]
      exact a2
    · unfold zs_s
      rw [State.alone_setFrames]
      exact a3
    · unfold State.ripe
      rw [Bool.and_eq_true]
      refine ⟨a6.1, ?_⟩
      simp [constructedBy]
    · unfold State.hasRoom
      simp only [Bool.and_eq_true, decide_eq_true_eq]
      refine ⟨⟨⟨⟨?_, ?_⟩, ?_⟩, ?_⟩, ?_⟩
      · rw [hlo]
        show 2048 + (maxLocals + 11) + 84000 + 10240 ≤ 117931
        clear hlo hm3
        revert hmx
        generalize maxLocals = ml
        intro hmx
        omega
      · rw [hlo, hsl, hfr']
        show 2 + 2048 ≤ e.platform.maxFrames ∧ 2 + 2048 ≤ e.platform.maxFrames ∧ 2048 + (maxLocals + 11) + 84000 ≤ e.platform.maxStackSlots ∧ 2048 + (maxLocals + 11) + 84000 ≤ e.platform.maxStackSlots ∧ (zs_s s m cell.cls).me.stackBytes = 0
        have hq : 2048 + (maxLocals + 11) + 84000 ≤ e.platform.maxStackSlots := by
          clear hlo hm3
          revert hmx
          generalize maxLocals = ml
          intro hmx
          omega
        exact ⟨by omega, by omega, hq, hq, hsb⟩
      · show (s.heap.push (zs_nc cell.cls)).size + room_1.cells ≤ e.platform.maxCells + 1
        have r2' : s.heap.size + room_1.cells ≤ e.platform.maxCells := r2
        rw [Array.size_push]
        omega
      · show s.slotsUsed + z_sc.length + room_1.slots ≤ e.platform.maxSlots + z_sc.length
        have r3' : s.slotsUsed + room_1.slots ≤ e.platform.maxSlots := r3
        omega
      · unfold State.slotsTrue at r4 ⊢
        show (s.slotsUsed + z_sc.length == (s.heap.push (zs_nc cell.cls)).foldl (fun n c => n + c.slots.size) 0) = true
        have r4' := beq_iff_eq.mp r4
        rw [Array.foldl_push, ← r4']
        simp [zs_nc]
    · exact atoms_intro (ws := Jvm.Cond.code x code maxLocals ret :: tables_1) fun w hw => zs_keep (List.all_eq_true.mp zs_tab w hw) (hts w hw)
  · show rest_1_c.before #[.ref s.heap.size] (zs_s s m cell.cls) = true
    rw [rest_1_c, Cond.before_and, Bool.and_eq_true]
    constructor
    · rw [zs_b]
      simp only [Cond.value, hI'.length_eval (t := .arg 0) (args := #[.ref s.heap.size]) (first := zs_s s m cell.cls) (o := none) (idx := []) rfl]
      rfl
    · rw [zs_b]
      refine hI'.all_value rfl fun j hj => ?_
      simp only [Cond.value, hI'.elem_nat (t := .arg 0) (i := .index 0) (k := j) (args := #[.ref s.heap.size]) (first := zs_s s m cell.cls) (o := none) (idx := [j]) rfl rfl hj]
      rfl
  · show (Jvm.Cond.and given_1 narrow_1).before #[.ref s.heap.size] (zs_s s m cell.cls) = true
    rw [Cond.before_and, Bool.and_eq_true]
    refine ⟨rfl, zs_flat narrow_1 fun w hw => ?_⟩
    have h := List.all_eq_true.mp zs_nar w hw
    simp only [Bool.or_eq_true, decide_eq_true_eq] at h
    rcases h with (h | rfl) | rfl
    · exact zs_keep h (hnf w hw)
    · rw [zs_b]
      exact hI'.arrayOf_value rfl
    · rw [zs_b]
      simp only [Cond.value, hI'.length_eval (t := .arg 0) (args := #[.ref s.heap.size]) (first := zs_s s m cell.cls) (o := none) (idx := []) rfl]
      exact (by decide : some (decide (z_sc.length.toInt32 ≤ 3072)) = some true)
theorem claim_false_where_witnessed (hw : WitnessClaimed_1) : ¬ (Claimed_1_1 ∧ Claimed_1_2) := fun h => refuted_where_witnessed hw h.2
end
