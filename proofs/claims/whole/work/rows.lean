section
/-! AN ABSTRACT MACHINE. Its heap is a list of cells, counted from the first that the law makes; a reference is a place in that list. Old cells (the script, constants) are named by floats, which the program doesn't use. -/
abbrev ab_E : Type := (Nat × Nat × (Nat → Value)) ⊕ (Nat × List Value)
abbrev ab_H : Type := List ab_E
abbrev ab_L : Type := List (Nat × Value)
def ab_v (B : Nat) (od : Nat → Nat) (v : Value) : Value := match v with
  | .ref j => .ref (B + j)
  | .float w => .ref (od w.toNat)
  | v => v
theorem ab_v_cat (B : Nat) (od : Nat → Nat) (v : Value) : (ab_v B od v).category = v.category := by cases v <;> rfl
/-- a cell stands for an abstract one -/
def ab_c (B : Nat) (od : Nat → Nat) (D : va_G) (dA : Nat → ClassId) (cl : List vw_C) (k : Nat) (x : ab_E) (H : Heap) : Prop := match x with
  | .inl (t, n, f) => H[B + k]? = some (arrV (dA t) n (fun j => ab_v B od (f j)))
  | .inr (ci, fs) => ∃ r : vw_C, cl[ci]? = some r ∧ t_OB (B + k) (D.1 ci) r.2.2 (D.2 ci) H (vp_V (fs.map (ab_v B od)))
theorem ab_c.kept {B : Nat} {od : Nat → Nat} {D : va_G} {dA : Nat → ClassId} {cl : List vw_C} {k : Nat} {x : ab_E} {H H1 : Heap} (h : ab_c B od D dA cl k x H) (hq : H1[B + k]? = H[B + k]?) : ab_c B od D dA cl k x H1 := by
  rcases x with ⟨t, n, f⟩ | ⟨ci, fs⟩
  · exact hq.trans h
  · obtain ⟨r, h1, h2⟩ := h
    exact ⟨r, h1, h2.kept hq⟩
def ab_sz1 (x : ab_E) : Nat := match x with
  | .inl (_, n, _) => n
  | .inr (_, fs) => fs.length
def ab_sz (h : ab_H) : Nat := (h.map ab_sz1).sum
theorem ab_sz_push (h : ab_H) (x : ab_E) : ab_sz (h ++ [x]) = ab_sz h + ab_sz1 x := by simp [ab_sz]
/-- the heap stands for an abstract one; nothing below B has changed since H0; so many cells and slots have come since the activation began (n0, z0 were there) -/
def ab_R (B : Nat) (od : Nat → Nat) (D : va_G) (dA : Nat → ClassId) (cl : List vw_C) (NC NS : Nat) (H0 : Heap) (n0 z0 : Nat) (h : ab_H) (H : Heap) (locs : List Loc) (cells slots : Nat) : Prop :=
  (∀ (k : Nat) (x : ab_E), h[k]? = some x → ab_c B od D dA cl k x H) ∧ H.size = B + h.length ∧ va_S (fun q => B ≤ q) H0 H locs ∧ h.length = n0 + cells ∧ ab_sz h = z0 + slots ∧ h.length ≤ NC ∧ ab_sz h ≤ NS
theorem ab_R.set {B : Nat} {od : Nat → Nat} {D : va_G} {dA : Nat → ClassId} {cl : List vw_C} {NC NS : Nat} {H0 : Heap} {n0 z0 : Nat} {h : ab_H} {H H1 : Heap} {locs : List Loc} {cells slots k i : Nat} {x0 x : ab_E}
    (hR : ab_R B od D dA cl NC NS H0 n0 z0 h H locs cells slots) (hk : h[k]? = some x0) (hz : ab_sz1 x = ab_sz1 x0) (hx : ab_c B od D dA cl k x H1) (zs : H1.size = H.size) (oq : ∀ q : Nat, q ≠ B + k → H1[q]? = H[q]?) :
    ab_R B od D dA cl NC NS H0 n0 z0 (h.set k x) H1 (locs ++ [⟨B + k, i⟩]) cells slots := by
  obtain ⟨h1, h2, h3, h4, h5, h6, h7⟩ := hR
  have hl := (List.getElem?_eq_some_iff.mp hk).1
  refine ⟨fun j y hj => ?_, by rw [zs, h2, List.length_set], h3.put zs oq (Nat.le_add_right _ _), by rw [List.length_set]; exact h4, ?_⟩
  · by_cases hjk : j = k
    · subst hjk
      rw [List.getElem?_set_self hl] at hj
      cases hj
      exact hx
    · rw [List.getElem?_set_ne (Ne.symm hjk)] at hj
      exact (h1 j y hj).kept (oq _ (by omega))
  · have e : ab_sz (h.set k x) = ab_sz h := by
      have e0 : (h.set k x).map ab_sz1 = h.map ab_sz1 := by
        rw [List.map_set, hz]
        have e1 : (h.map ab_sz1)[k]? = some (ab_sz1 x0) := by rw [List.getElem?_map, hk]; rfl
        apply List.ext_getElem?
        intro j
        by_cases hjk : j = k
        · subst hjk
          rw [List.getElem?_set_self (by simpa using hl), e1]
        · rw [List.getElem?_set_ne (Ne.symm hjk)]
      unfold ab_sz
      rw [e0]
    rw [e, List.length_set]; exact ⟨h5, h6, h7⟩
theorem ab_R.push {B : Nat} {od : Nat → Nat} {D : va_G} {dA : Nat → ClassId} {cl : List vw_C} {NC NS : Nat} {H0 : Heap} {n0 z0 : Nat} {h : ab_H} {H H1 : Heap} {locs : List Loc} {cells slots n : Nat} {x : ab_E}
    (hR : ab_R B od D dA cl NC NS H0 n0 z0 h H locs cells slots) (hz : ab_sz1 x = n) (hNC : h.length + 1 ≤ NC) (hNS : ab_sz h + n ≤ NS) (hx : ab_c B od D dA cl h.length x H1) (zs : H1.size = H.size + 1) (oq : ∀ q : Nat, q < H.size → H1[q]? = H[q]?) :
    ab_R B od D dA cl NC NS H0 n0 z0 (h ++ [x]) H1 locs (cells + 1) (slots + n) := by
  obtain ⟨h1, h2, h3, h4, h5, h6, h7⟩ := hR
  refine ⟨fun j y hj => ?_, by rw [zs, h2, List.length_append]; rfl, ⟨by rw [zs]; exact Nat.le_trans h3.1 (Nat.le_succ _), fun q a b => (oq q (Nat.lt_of_lt_of_le a h3.1)).trans (h3.2.1 q a b), h3.2.2⟩, by rw [List.length_append, h4]; rfl, by rw [ab_sz_push]; omega, by rw [List.length_append]; exact hNC, by rw [ab_sz_push]; omega⟩
  by_cases hl : j < h.length
  · rw [List.getElem?_append_left hl] at hj
    exact (h1 j y hj).kept (oq _ (by rw [h2]; omega))
  · rw [List.getElem?_append_right (by omega)] at hj
    have hj0 : j - h.length < 1 := (List.getElem?_eq_some_iff.mp hj).1
    have hj1 : j = h.length := by omega
    subst hj1
    rw [Nat.sub_self] at hj
    cases hj
    exact hx
/-- locals -/
def ab_get (L : ab_L) (i : Nat) : Option Value := (L.find? (fun q => q.1 == i)).map (fun q => q.2)
def ab_put1 (L : ab_L) (i : Nat) (v : Value) : ab_L := (i, v) :: L.filter (fun q => !(q.1 == i) && !(q.1 + 1 == i && q.2.category == 2))
def ab_put2 (L : ab_L) (i : Nat) (v : Value) : ab_L := (i, v) :: L.filter (fun q => !(q.1 == i) && (!(q.1 == i + 1) && !(q.1 + 1 == i && q.2.category == 2)))
def ab_m (B : Nat) (od : Nat → Nat) (L : ab_L) : ab_L := L.map (fun q => (q.1, ab_v B od q.2))
theorem ab_get_mem {L : ab_L} {i : Nat} {v : Value} (h : ab_get L i = some v) : (i, v) ∈ L := by
  unfold ab_get at h
  cases hf : L.find? (fun q => q.1 == i) with
  | none => rw [hf] at h; cases h
  | some q =>
    rw [hf] at h
    have h1 := List.mem_of_find?_eq_some hf
    have h2 := List.find?_some hf
    obtain ⟨a, b⟩ := q
    simp at h h2
    subst h2; subst h
    exact h1
theorem ab_at {B : Nat} {od : Nat → Nat} {L : ab_L} {i nL : Nat} {v : Value} {ls : Array Slot} (hl : lv_has ls nL (ab_m B od L)) (h : ab_get L i = some v) : ls[i]? = some (.val (ab_v B od v)) :=
  hl.2.2 (i, ab_v B od v) (List.mem_map.mpr ⟨(i, v), ab_get_mem h, rfl⟩)
theorem ab_m_put1 (B : Nat) (od : Nat → Nat) (L : ab_L) (i : Nat) (v : Value) : (i, ab_v B od v) :: (ab_m B od L).filter (fun q => !(q.1 == i) && !(q.1 + 1 == i && q.2.category == 2)) = ab_m B od (ab_put1 L i v) := by
  unfold ab_m ab_put1
  rw [List.filter_map, List.map_cons]
  congr 2
  apply List.filter_congr
  intro q _
  simp [ab_v_cat]
theorem ab_m_put2 (B : Nat) (od : Nat → Nat) (L : ab_L) (i : Nat) (v : Value) : (i, ab_v B od v) :: (ab_m B od L).filter (fun q => !(q.1 == i) && (!(q.1 == i + 1) && !(q.1 + 1 == i && q.2.category == 2))) = ab_m B od (ab_put2 L i v) := by
  unfold ab_m ab_put2
  rw [List.filter_map, List.map_cons]
  congr 2
  apply List.filter_congr
  intro q _
  simp [ab_v_cat]
end
section
/-- the length of an instruction (0: not one of those, or a switch) -/
def ab_len (i : Instr) : Nat := match i with
  | .iconst _ => 1
  | .bipush _ => 2
  | .sipush _ => 3
  | .lconst _ => 1
  | .aconst_null => 1
  | .iload_n _ => 1
  | .iload _ => 2
  | .lload_n _ => 1
  | .lload _ => 2
  | .aload_n _ => 1
  | .aload _ => 2
  | .istore_n _ => 1
  | .istore _ => 2
  | .lstore_n _ => 1
  | .lstore _ => 2
  | .astore_n _ => 1
  | .astore _ => 2
  | .iinc _ _ => 3
  | .iadd => 1
  | .isub => 1
  | .imul => 1
  | .iand => 1
  | .ior => 1
  | .ixor => 1
  | .ishl => 1
  | .ishr => 1
  | .iushr => 1
  | .ladd => 1
  | .lsub => 1
  | .lmul => 1
  | .lcmp => 1
  | .idiv => 1
  | .irem => 1
  | .ldiv => 1
  | .lrem => 1
  | .ineg => 1
  | .lneg => 1
  | .i2l => 1
  | .l2i => 1
  | .i2b => 1
  | .i2c => 1
  | .dup => 1
  | .pop => 1
  | .dup_x1 => 1
  | .dup_x2 => 1
  | .dup2 => 1
  | .ifCond _ _ => 3
  | .if_icmp _ _ => 3
  | .instanceof _ => 3
  | .goto _ => 3
  | .ifnull _ => 3
  | .ifnonnull _ => 3
  | .getfield _ => 3
  | .putfield _ => 3
  | .getstatic _ => 3
  | .new _ => 3
  | .newarray _ => 2
  | .anewarray _ => 3
  | .checkcast _ => 3
  | .arraylength => 1
  | .iaload => 1
  | .baload => 1
  | .caload => 1
  | .laload => 1
  | .aaload => 1
  | .iastore => 1
  | .bastore => 1
  | .castore => 1
  | .lastore => 1
  | .aastore => 1
  | .invokevirtual _ => 3
  | .invokespecial _ => 3
  | .invokestatic _ => 3
  | .ireturn => 1
  | .lreturn => 1
  | .areturn => 1
  | .return_ => 1
  | .athrow => 1
  | .ldc _ => 2
  | .ldc_w _ => 3
  | .ldc2_w _ => 3
  | .if_acmp _ _ => 3
  | _ => 0
/-- where a branch goes -/
def ab_off (i : Instr) : Option Int := match i with
  | .ifCond _ off => some off
  | .if_icmp _ off => some off
  | .if_acmp _ off => some off
  | .goto off => some off
  | .ifnull off => some off
  | .ifnonnull off => some off
  | _ => none
/-- instructions that touch locals and stack alone -/
def ab_s1 (nL : Nat) (i : Instr) (pc tg : Nat) (L : ab_L) (S : List Value) : Option (Nat × ab_L × List Value) := match i with
  | .iconst n => some (pc + 1, L, .int (Int32.ofInt n) :: S)
  | .bipush n => some (pc + 2, L, .int (Int8.ofInt n).toInt32 :: S)
  | .sipush n => some (pc + 3, L, .int (Int16.ofInt n).toInt32 :: S)
  | .lconst n => some (pc + 1, L, .long (Int64.ofNat (n : Nat)) :: S)
  | .aconst_null => some (pc + 1, L, .null :: S)
  | .iload_n n => (match ab_get L n with | some (.int x) => some (pc + 1, L, .int x :: S) | _ => none)
  | .iload n => (match ab_get L n with | some (.int x) => some (pc + 2, L, .int x :: S) | _ => none)
  | .lload_n n => (match ab_get L n with | some (.long x) => some (pc + 1, L, .long x :: S) | _ => none)
  | .lload n => (match ab_get L n with | some (.long x) => some (pc + 2, L, .long x :: S) | _ => none)
  | .aload_n n => (match ab_get L n with | some (.ref x) => some (pc + 1, L, .ref x :: S) | some (.float x) => some (pc + 1, L, .float x :: S) | some .null => some (pc + 1, L, .null :: S) | _ => none)
  | .aload n => (match ab_get L n with | some (.ref x) => some (pc + 2, L, .ref x :: S) | some (.float x) => some (pc + 2, L, .float x :: S) | some .null => some (pc + 2, L, .null :: S) | _ => none)
  | .istore_n n => (match S with | .int x :: r => if (n : Nat) < nL then some (pc + 1, ab_put1 L n (.int x), r) else none | _ => none)
  | .istore n => (match S with | .int x :: r => if (n : Nat) < nL then some (pc + 2, ab_put1 L n (.int x), r) else none | _ => none)
  | .lstore_n n => (match S with | .long x :: r => if (n : Nat) + 1 < nL then some (pc + 1, ab_put2 L n (.long x), r) else none | _ => none)
  | .lstore n => (match S with | .long x :: r => if (n : Nat) + 1 < nL then some (pc + 2, ab_put2 L n (.long x), r) else none | _ => none)
  | .astore_n n => (match S with | .ref x :: r => if (n : Nat) < nL then some (pc + 1, ab_put1 L n (.ref x), r) else none | .float x :: r => if (n : Nat) < nL then some (pc + 1, ab_put1 L n (.float x), r) else none | .null :: r => if (n : Nat) < nL then some (pc + 1, ab_put1 L n .null, r) else none | _ => none)
  | .astore n => (match S with | .ref x :: r => if (n : Nat) < nL then some (pc + 2, ab_put1 L n (.ref x), r) else none | .float x :: r => if (n : Nat) < nL then some (pc + 2, ab_put1 L n (.float x), r) else none | .null :: r => if (n : Nat) < nL then some (pc + 2, ab_put1 L n .null, r) else none | _ => none)
  | .iinc n z => (match ab_get L n with | some (.int x) => if n < nL then some (pc + 3, ab_put1 L n (.int (x + Int32.ofInt z)), S) else none | _ => none)
  | .iadd => (match S with | .int y :: .int x :: r => some (pc + 1, L, .int (x + y) :: r) | _ => none)
  | .isub => (match S with | .int y :: .int x :: r => some (pc + 1, L, .int (x - y) :: r) | _ => none)
  | .imul => (match S with | .int y :: .int x :: r => some (pc + 1, L, .int (x * y) :: r) | _ => none)
  | .iand => (match S with | .int y :: .int x :: r => some (pc + 1, L, .int (x &&& y) :: r) | _ => none)
  | .ior => (match S with | .int y :: .int x :: r => some (pc + 1, L, .int (x ||| y) :: r) | _ => none)
  | .ixor => (match S with | .int y :: .int x :: r => some (pc + 1, L, .int (x ^^^ y) :: r) | _ => none)
  | .ishl => (match S with | .int y :: .int x :: r => some (pc + 1, L, .int (x <<< (y &&& 31)) :: r) | _ => none)
  | .ishr => (match S with | .int y :: .int x :: r => some (pc + 1, L, .int (x >>> (y &&& 31)) :: r) | _ => none)
  | .iushr => (match S with | .int y :: .int x :: r => some (pc + 1, L, .int ((x.toUInt32 >>> (y.toUInt32 &&& Int32.toUInt32 31)).toInt32) :: r) | _ => none)
  | .ladd => (match S with | .long y :: .long x :: r => some (pc + 1, L, .long (x + y) :: r) | _ => none)
  | .lsub => (match S with | .long y :: .long x :: r => some (pc + 1, L, .long (x - y) :: r) | _ => none)
  | .lmul => (match S with | .long y :: .long x :: r => some (pc + 1, L, .long (x * y) :: r) | _ => none)
  | .lcmp => (match S with | .long y :: .long x :: r => some (pc + 1, L, .int (lg_cmp x y) :: r) | _ => none)
  | .idiv => (match S with | .int y :: .int x :: r => if y = 0 then none else some (pc + 1, L, .int (x / y) :: r) | _ => none)
  | .irem => (match S with | .int y :: .int x :: r => if y = 0 then none else some (pc + 1, L, .int (x - x / y * y) :: r) | _ => none)
  | .ldiv => (match S with | .long y :: .long x :: r => if y = 0 then none else some (pc + 1, L, .long (x / y) :: r) | _ => none)
  | .lrem => (match S with | .long y :: .long x :: r => if y = 0 then none else some (pc + 1, L, .long (x - x / y * y) :: r) | _ => none)
  | .ineg => (match S with | .int x :: r => some (pc + 1, L, .int (-x) :: r) | _ => none)
  | .lneg => (match S with | .long x :: r => some (pc + 1, L, .long (-x) :: r) | _ => none)
  | .i2l => (match S with | .int x :: r => some (pc + 1, L, .long (x.toInt64) :: r) | _ => none)
  | .l2i => (match S with | .long x :: r => some (pc + 1, L, .int (x.toInt32) :: r) | _ => none)
  | .i2b => (match S with | .int x :: r => some (pc + 1, L, .int (x.toInt8.toInt32) :: r) | _ => none)
  | .i2c => (match S with | .int x :: r => some (pc + 1, L, .int ((x.toUInt32 % 65536).toInt32) :: r) | _ => none)
  | .dup => (match S with | a :: r => if a.category = 1 then some (pc + 1, L, a :: a :: r) else none | _ => none)
  | .pop => (match S with | a :: r => if a.category = 1 then some (pc + 1, L, r) else none | _ => none)
  | .dup_x1 => (match S with | a :: b :: r => if a.category = 1 ∧ b.category = 1 then some (pc + 1, L, a :: b :: a :: r) else none | _ => none)
  | .dup_x2 => (match S with | a :: b :: d :: r => if a.category = 1 ∧ b.category = 1 ∧ d.category = 1 then some (pc + 1, L, a :: b :: d :: a :: r) else none | _ => none)
  | .dup2 => (match S with | a :: b :: r => if a.category = 1 ∧ b.category = 1 then some (pc + 1, L, a :: b :: a :: b :: r) else none | _ => none)
  | .ifCond .eq off => (match S with | .int x :: r => some (if x = 0 then tg else pc + 3, L, r) | _ => none)
  | .if_icmp .eq off => (match S with | .int y :: .int x :: r => some (if x = y then tg else pc + 3, L, r) | _ => none)
  | .ifCond .ne off => (match S with | .int x :: r => some (if x = 0 then pc + 3 else tg, L, r) | _ => none)
  | .if_icmp .ne off => (match S with | .int y :: .int x :: r => some (if x = y then pc + 3 else tg, L, r) | _ => none)
  | .ifCond .lt off => (match S with | .int x :: r => some (if x < 0 then tg else pc + 3, L, r) | _ => none)
  | .if_icmp .lt off => (match S with | .int y :: .int x :: r => some (if x < y then tg else pc + 3, L, r) | _ => none)
  | .ifCond .ge off => (match S with | .int x :: r => some (if 0 ≤ x then tg else pc + 3, L, r) | _ => none)
  | .if_icmp .ge off => (match S with | .int y :: .int x :: r => some (if y ≤ x then tg else pc + 3, L, r) | _ => none)
  | .ifCond .gt off => (match S with | .int x :: r => some (if 0 < x then tg else pc + 3, L, r) | _ => none)
  | .if_icmp .gt off => (match S with | .int y :: .int x :: r => some (if y < x then tg else pc + 3, L, r) | _ => none)
  | .ifCond .le off => (match S with | .int x :: r => some (if x ≤ 0 then tg else pc + 3, L, r) | _ => none)
  | .if_icmp .le off => (match S with | .int y :: .int x :: r => some (if x ≤ y then tg else pc + 3, L, r) | _ => none)
  | .goto off => some (tg, L, S)
  | .ifnull off => (match S with | .ref _ :: r => some (pc + 3, L, r) | .float _ :: r => some (pc + 3, L, r) | .null :: r => some (tg, L, r) | _ => none)
  | .ifnonnull off => (match S with | .ref _ :: r => some (tg, L, r) | .float _ :: r => some (tg, L, r) | .null :: r => some (pc + 3, L, r) | _ => none)
  | _ => none
section AB1
variable {p : Program} {l : Launch} {e : Env} {R : Room} {s : State} {m : MethodId} {args : Array Value} {below : List Frame} {meth : Method} {c : Code} {H : Heap} {locs : List Loc} {cells slots : Nat} {Q : State → Prop}
variable {cc : ByteArray} {pc pc' tg nL len B : Nat} {od : Nat → Nat} {L L' : ab_L} {S S' : List Value} {i : Instr} {ls : Array Slot}
set_option maxHeartbeats 4000000 in
theorem ab_s1_ok (hx : p.tables.exec = Jvm.exec) (hb : c.code = cc) (hdg : decode cc pc = .ok (i, len)) (hlen : ab_len i = 0 ∨ len = ab_len i) (htg0 : ∀ off, ab_off i = some off → (pc : Int) + off = (tg : Int))
    (hs : ab_s1 nL i pc tg L S = some (pc', L', S')) (hl : lv_has ls nL (ab_m B od L))
    (k : ∀ ls' : Array Slot, lv_has ls' nL (ab_m B od L') → W p l e R s m args below meth c H locs cells slots Q (F0 m pc' ls' (S'.map (ab_v B od)))) :
    W p l e R s m args below meth c H locs cells slots Q (F0 m pc ls (S.map (ab_v B od))) := by
  rcases hlen with hlen | hlen
  · cases i
    all_goals first | (simp only [ab_s1] at hs; cases hs; done) | (revert hlen; simp [ab_len]; done)
  subst hlen
  cases i
  case iconst n =>
    simp only [ab_s1] at hs
    cases hs
    exact lv_iconst hx hb hdg rfl (k ls hl)
  case bipush n =>
    simp only [ab_s1] at hs
    cases hs
    exact lv_bipush hx hb hdg rfl (k ls hl)
  case sipush n =>
    simp only [ab_s1] at hs
    cases hs
    exact lv_sipush hx hb hdg rfl (k ls hl)
  case lconst n =>
    simp only [ab_s1] at hs
    cases hs
    exact lv_lconst hx hb hdg rfl (k ls hl)
  case aconst_null =>
    simp only [ab_s1] at hs
    cases hs
    exact lv_null hx hb hdg (k ls hl)
  case iload_n n =>
    simp only [ab_s1] at hs
    split at hs
    · rename_i x hg
      cases hs
      exact lv_iload_n hx hb hdg rfl (ab_at hl hg) (k ls hl)
    · cases hs
  case iload n =>
    simp only [ab_s1] at hs
    split at hs
    · rename_i x hg
      cases hs
      exact lv_iload hx hb hdg (ab_at hl hg) (k ls hl)
    · cases hs
  case lload_n n =>
    simp only [ab_s1] at hs
    split at hs
    · rename_i x hg
      cases hs
      exact lv_lload_n hx hb hdg rfl (ab_at hl hg) (k ls hl)
    · cases hs
  case lload n =>
    simp only [ab_s1] at hs
    split at hs
    · rename_i x hg
      cases hs
      exact lv_lload hx hb hdg (ab_at hl hg) (k ls hl)
    · cases hs
  case aload_n n =>
    simp only [ab_s1] at hs
    split at hs
    · rename_i x hg
      cases hs
      exact lv_aload_n hx hb hdg rfl (ab_at hl hg) (k ls hl)
    · rename_i x hg
      cases hs
      exact lv_aload_n hx hb hdg rfl (ab_at hl hg) (k ls hl)
    · rename_i hg
      cases hs
      exact lv_aload_nN hx hb hdg rfl (ab_at hl hg) (k ls hl)
    · cases hs
  case aload n =>
    simp only [ab_s1] at hs
    split at hs
    · rename_i x hg
      cases hs
      exact lv_aload hx hb hdg (ab_at hl hg) (k ls hl)
    · rename_i x hg
      cases hs
      exact lv_aload hx hb hdg (ab_at hl hg) (k ls hl)
    · rename_i hg
      cases hs
      exact lv_aloadN hx hb hdg (ab_at hl hg) (k ls hl)
    · cases hs
  case istore_n n =>
    simp only [ab_s1] at hs
    split at hs
    · rename_i x r
      split at hs
      · rename_i hn
        cases hs
        exact lv_istore_n hx hb hdg rfl hl hn (ab_m_put1 B od L _ (.int x)) (fun ls' hl' => k ls' hl')
      · cases hs
    · cases hs
  case istore n =>
    simp only [ab_s1] at hs
    split at hs
    · rename_i x r
      split at hs
      · rename_i hn
        cases hs
        exact lv_istore hx hb hdg hl hn (ab_m_put1 B od L _ (.int x)) (fun ls' hl' => k ls' hl')
      · cases hs
    · cases hs
  case lstore_n n =>
    simp only [ab_s1] at hs
    split at hs
    · rename_i x r
      split at hs
      · rename_i hn
        cases hs
        exact lv_lstore_n hx hb hdg rfl hl hn (ab_m_put2 B od L _ (.long x)) (fun ls' hl' => k ls' hl')
      · cases hs
    · cases hs
  case lstore n =>
    simp only [ab_s1] at hs
    split at hs
    · rename_i x r
      split at hs
      · rename_i hn
        cases hs
        exact lv_lstore hx hb hdg hl hn (ab_m_put2 B od L _ (.long x)) (fun ls' hl' => k ls' hl')
      · cases hs
    · cases hs
  case astore_n n =>
    simp only [ab_s1] at hs
    split at hs
    · rename_i x r
      split at hs
      · rename_i hn
        cases hs
        exact lv_astore_n hx hb hdg rfl hl hn (ab_m_put1 B od L _ (.ref x)) (fun ls' hl' => k ls' hl')
      · cases hs
    · rename_i x r
      split at hs
      · rename_i hn
        cases hs
        exact lv_astore_n hx hb hdg rfl hl hn (ab_m_put1 B od L _ (.float x)) (fun ls' hl' => k ls' hl')
      · cases hs
    · rename_i r
      split at hs
      · rename_i hn
        cases hs
        exact lv_astore_nN hx hb hdg rfl hl hn (ab_m_put1 B od L _ .null) (fun ls' hl' => k ls' hl')
      · cases hs
    · cases hs
  case astore n =>
    simp only [ab_s1] at hs
    split at hs
    · rename_i x r
      split at hs
      · rename_i hn
        cases hs
        exact lv_astore hx hb hdg hl hn (ab_m_put1 B od L _ (.ref x)) (fun ls' hl' => k ls' hl')
      · cases hs
    · rename_i x r
      split at hs
      · rename_i hn
        cases hs
        exact lv_astore hx hb hdg hl hn (ab_m_put1 B od L _ (.float x)) (fun ls' hl' => k ls' hl')
      · cases hs
    · rename_i r
      split at hs
      · rename_i hn
        cases hs
        exact lv_astoreN hx hb hdg hl hn (ab_m_put1 B od L _ .null) (fun ls' hl' => k ls' hl')
      · cases hs
    · cases hs
  case iinc n z =>
    simp only [ab_s1] at hs
    split at hs
    · rename_i x hg
      split at hs
      · rename_i hn
        cases hs
        obtain ⟨j, hj⟩ := List.getElem?_of_mem (List.mem_map.mpr ⟨(n, Value.int x), ab_get_mem hg, rfl⟩ : (n, ab_v B od (.int x)) ∈ ab_m B od L)
        exact lv_iinc (x := x) hx hb hdg hl hj rfl hn (ab_m_put1 B od L n (.int (x + Int32.ofInt z))) (fun ls' hl' => k ls' hl')
      · cases hs
    · cases hs
  case iadd =>
    simp only [ab_s1] at hs
    split at hs
    · rename_i y x r
      cases hs
      exact lv_iadd hx hb hdg (k ls hl)
    · cases hs
  case isub =>
    simp only [ab_s1] at hs
    split at hs
    · rename_i y x r
      cases hs
      exact lv_isub hx hb hdg (k ls hl)
    · cases hs
  case imul =>
    simp only [ab_s1] at hs
    split at hs
    · rename_i y x r
      cases hs
      exact lv_imul hx hb hdg (k ls hl)
    · cases hs
  case iand =>
    simp only [ab_s1] at hs
    split at hs
    · rename_i y x r
      cases hs
      exact lv_iand hx hb hdg (k ls hl)
    · cases hs
  case ior =>
    simp only [ab_s1] at hs
    split at hs
    · rename_i y x r
      cases hs
      exact lv_ior hx hb hdg (k ls hl)
    · cases hs
  case ixor =>
    simp only [ab_s1] at hs
    split at hs
    · rename_i y x r
      cases hs
      exact lv_ixor hx hb hdg (k ls hl)
    · cases hs
  case ishl =>
    simp only [ab_s1] at hs
    split at hs
    · rename_i y x r
      cases hs
      exact lv_ishl hx hb hdg (k ls hl)
    · cases hs
  case ishr =>
    simp only [ab_s1] at hs
    split at hs
    · rename_i y x r
      cases hs
      exact lv_ishr hx hb hdg (k ls hl)
    · cases hs
  case iushr =>
    simp only [ab_s1] at hs
    split at hs
    · rename_i y x r
      cases hs
      exact lv_iushr hx hb hdg rfl (k ls hl)
    · cases hs
  case ladd =>
    simp only [ab_s1] at hs
    split at hs
    · rename_i y x r
      cases hs
      exact lv_ladd hx hb hdg (k ls hl)
    · cases hs
  case lsub =>
    simp only [ab_s1] at hs
    split at hs
    · rename_i y x r
      cases hs
      exact lv_lsub hx hb hdg (k ls hl)
    · cases hs
  case lmul =>
    simp only [ab_s1] at hs
    split at hs
    · rename_i y x r
      cases hs
      exact lv_lmul hx hb hdg (k ls hl)
    · cases hs
  case lcmp =>
    simp only [ab_s1] at hs
    split at hs
    · rename_i y x r
      cases hs
      exact W.lcmp hx hb hdg (k ls hl)
    · cases hs
  case idiv =>
    simp only [ab_s1] at hs
    split at hs
    · rename_i y x r
      split at hs
      · cases hs
      · rename_i hn
        cases hs
        exact lv_idiv hx hb hdg hn (k ls hl)
    · cases hs
  case irem =>
    simp only [ab_s1] at hs
    split at hs
    · rename_i y x r
      split at hs
      · cases hs
      · rename_i hn
        cases hs
        exact lv_irem hx hb hdg hn (k ls hl)
    · cases hs
  case ldiv =>
    simp only [ab_s1] at hs
    split at hs
    · rename_i y x r
      split at hs
      · cases hs
      · rename_i hn
        cases hs
        exact lv_ldiv hx hb hdg hn (k ls hl)
    · cases hs
  case lrem =>
    simp only [ab_s1] at hs
    split at hs
    · rename_i y x r
      split at hs
      · cases hs
      · rename_i hn
        cases hs
        exact lv_lrem hx hb hdg hn (k ls hl)
    · cases hs
  case ineg =>
    simp only [ab_s1] at hs
    split at hs
    · rename_i x r
      cases hs
      exact lv_ineg hx hb hdg (k ls hl)
    · cases hs
  case lneg =>
    simp only [ab_s1] at hs
    split at hs
    · rename_i x r
      cases hs
      exact lv_lneg hx hb hdg (k ls hl)
    · cases hs
  case i2l =>
    simp only [ab_s1] at hs
    split at hs
    · rename_i x r
      cases hs
      exact lv_i2l hx hb hdg rfl (k ls hl)
    · cases hs
  case l2i =>
    simp only [ab_s1] at hs
    split at hs
    · rename_i x r
      cases hs
      exact lv_l2i hx hb hdg rfl (k ls hl)
    · cases hs
  case i2b =>
    simp only [ab_s1] at hs
    split at hs
    · rename_i x r
      cases hs
      exact lv_i2b hx hb hdg rfl (k ls hl)
    · cases hs
  case i2c =>
    simp only [ab_s1] at hs
    split at hs
    · rename_i x r
      cases hs
      exact lv_i2c hx hb hdg rfl (k ls hl)
    · cases hs
  case dup =>
    simp only [ab_s1] at hs
    split at hs
    · rename_i a r
      split at hs
      · rename_i hc
        have w0 := hc
        cases hs
        exact lv_dup hx hb hdg (by rw [ab_v_cat]; exact w0) (k ls hl)
      · cases hs
    · cases hs
  case pop =>
    simp only [ab_s1] at hs
    split at hs
    · rename_i a r
      split at hs
      · rename_i hc
        have w0 := hc
        cases hs
        exact lv_pop hx hb hdg (by rw [ab_v_cat]; exact w0) (k ls hl)
      · cases hs
    · cases hs
  case dup_x1 =>
    simp only [ab_s1] at hs
    split at hs
    · rename_i a b r
      split at hs
      · rename_i hc
        obtain ⟨w0, w1⟩ := hc
        cases hs
        exact lv_dup_x1 hx hb hdg (by rw [ab_v_cat]; exact w0) (by rw [ab_v_cat]; exact w1) (k ls hl)
      · cases hs
    · cases hs
  case dup_x2 =>
    simp only [ab_s1] at hs
    split at hs
    · rename_i a b d r
      split at hs
      · rename_i hc
        obtain ⟨w0, w1, w2⟩ := hc
        cases hs
        exact lv_dup_x2 hx hb hdg (by rw [ab_v_cat]; exact w0) (by rw [ab_v_cat]; exact w1) (by rw [ab_v_cat]; exact w2) (k ls hl)
      · cases hs
    · cases hs
  case dup2 =>
    simp only [ab_s1] at hs
    split at hs
    · rename_i a b r
      split at hs
      · rename_i hc
        obtain ⟨w0, w1⟩ := hc
        cases hs
        exact lv_dup2_11 hx hb hdg (by rw [ab_v_cat]; exact w0) (by rw [ab_v_cat]; exact w1) (k ls hl)
      · cases hs
    · cases hs
  case goto off =>
    have htg := htg0 _ rfl
    simp only [ab_s1] at hs
    cases hs
    exact lv_goto hx hb hdg htg (k ls hl)
  case ifnull off =>
    have htg := htg0 _ rfl
    simp only [ab_s1] at hs
    split at hs
    · rename_i x r
      cases hs
      exact lv_ifnull hx hb hdg (k ls hl)
    · rename_i x r
      cases hs
      exact lv_ifnull hx hb hdg (k ls hl)
    · rename_i r
      cases hs
      exact lv_ifnullN hx hb hdg htg (k ls hl)
    · cases hs
  case ifnonnull off =>
    have htg := htg0 _ rfl
    simp only [ab_s1] at hs
    split at hs
    · rename_i x r
      cases hs
      exact lv_ifnonnull hx hb hdg htg (k ls hl)
    · rename_i x r
      cases hs
      exact lv_ifnonnull hx hb hdg htg (k ls hl)
    · rename_i r
      cases hs
      exact lv_ifnonnullN hx hb hdg (k ls hl)
    · cases hs
  case ifCond cd off =>
    have htg := htg0 _ rfl
    cases cd
    case eq =>
      simp only [ab_s1] at hs
      split at hs
      · rename_i x r
        cases hs
        exact lv_if_eq hx hb hdg htg (fun hc => by have k1 := k ls hl; rw [if_pos hc] at k1; exact k1) (fun hc => by have k1 := k ls hl; rw [if_neg hc] at k1; exact k1)
      · cases hs
    case ne =>
      simp only [ab_s1] at hs
      split at hs
      · rename_i x r
        cases hs
        exact lv_if_ne hx hb hdg htg (fun hc => by have k1 := k ls hl; rw [if_neg hc] at k1; exact k1) (fun hc => by have k1 := k ls hl; rw [if_pos hc] at k1; exact k1)
      · cases hs
    case lt =>
      simp only [ab_s1] at hs
      split at hs
      · rename_i x r
        cases hs
        exact lv_if_lt hx hb hdg htg (fun hc => by have k1 := k ls hl; rw [if_pos hc] at k1; exact k1) (fun hc => by have k1 := k ls hl; rw [if_neg hc] at k1; exact k1)
      · cases hs
    case ge =>
      simp only [ab_s1] at hs
      split at hs
      · rename_i x r
        cases hs
        exact lv_if_ge hx hb hdg htg (fun hc => by have k1 := k ls hl; rw [if_pos hc] at k1; exact k1) (fun hc => by have k1 := k ls hl; rw [if_neg hc] at k1; exact k1)
      · cases hs
    case gt =>
      simp only [ab_s1] at hs
      split at hs
      · rename_i x r
        cases hs
        exact lv_if_gt hx hb hdg htg (fun hc => by have k1 := k ls hl; rw [if_pos hc] at k1; exact k1) (fun hc => by have k1 := k ls hl; rw [if_neg hc] at k1; exact k1)
      · cases hs
    case le =>
      simp only [ab_s1] at hs
      split at hs
      · rename_i x r
        cases hs
        exact lv_if_le hx hb hdg htg (fun hc => by have k1 := k ls hl; rw [if_pos hc] at k1; exact k1) (fun hc => by have k1 := k ls hl; rw [if_neg hc] at k1; exact k1)
      · cases hs
  case if_icmp cd off =>
    have htg := htg0 _ rfl
    cases cd
    case eq =>
      simp only [ab_s1] at hs
      split at hs
      · rename_i y x r
        cases hs
        exact lv_icmp_eq hx hb hdg htg (fun hc => by have k1 := k ls hl; rw [if_pos hc] at k1; exact k1) (fun hc => by have k1 := k ls hl; rw [if_neg hc] at k1; exact k1)
      · cases hs
    case ne =>
      simp only [ab_s1] at hs
      split at hs
      · rename_i y x r
        cases hs
        exact lv_icmp_ne hx hb hdg htg (fun hc => by have k1 := k ls hl; rw [if_neg hc] at k1; exact k1) (fun hc => by have k1 := k ls hl; rw [if_pos hc] at k1; exact k1)
      · cases hs
    case lt =>
      simp only [ab_s1] at hs
      split at hs
      · rename_i y x r
        cases hs
        exact lv_icmp_lt hx hb hdg htg (fun hc => by have k1 := k ls hl; rw [if_pos hc] at k1; exact k1) (fun hc => by have k1 := k ls hl; rw [if_neg hc] at k1; exact k1)
      · cases hs
    case ge =>
      simp only [ab_s1] at hs
      split at hs
      · rename_i y x r
        cases hs
        exact lv_icmp_ge hx hb hdg htg (fun hc => by have k1 := k ls hl; rw [if_pos hc] at k1; exact k1) (fun hc => by have k1 := k ls hl; rw [if_neg hc] at k1; exact k1)
      · cases hs
    case gt =>
      simp only [ab_s1] at hs
      split at hs
      · rename_i y x r
        cases hs
        exact lv_icmp_gt hx hb hdg htg (fun hc => by have k1 := k ls hl; rw [if_pos hc] at k1; exact k1) (fun hc => by have k1 := k ls hl; rw [if_neg hc] at k1; exact k1)
      · cases hs
    case le =>
      simp only [ab_s1] at hs
      split at hs
      · rename_i y x r
        cases hs
        exact lv_icmp_le hx hb hdg htg (fun hc => by have k1 := k ls hl; rw [if_pos hc] at k1; exact k1) (fun hc => by have k1 := k ls hl; rw [if_neg hc] at k1; exact k1)
      · cases hs
  all_goals (simp only [ab_s1] at hs; cases hs)
end AB1
end
section
/-! the heap's instructions -/
/-- an entry of a class's pool: kind, two numbers, a value. 0 field (class, field); 1 method (number); 2 class (number in cl); 3 constant; 4 static; 5 Object's constructor; 6 array class (place in aty); 7 String constant -/
abbrev ab_N : Type := Nat × Nat × Nat × Value
/-- what a field of this type may hold -/
def ab_ft (ty : FieldType) (v : Value) : Bool := match ty, v with
  | .int, .int _ => true
  | .long, .long _ => true
  | .boolean, .int x => x == 0 || x == 1
  | .byte, .int x => x.toInt8.toInt32 == x && fits .byte (.int x)
  | .char, .int x => x.toUInt32.toUInt16.toUInt32.toInt32 == x && fits .char (.int x)
  | .object _, .ref _ => true
  | .object _, .float _ => true
  | .object _, .null => true
  | .array _, .ref _ => true
  | .array _, .float _ => true
  | .array _, .null => true
  | _, _ => false
theorem ab_ft_ok {B : Nat} {od : Nat → Nat} {ty : FieldType} {v : Value} (h : ab_ft ty v = true) : narrow ty (ab_v B od v) = ab_v B od v ∧ fits ty (ab_v B od v) = true := by
  cases ty <;> cases v <;> first | (exfalso; revert h; simp [ab_ft]; done) | exact ⟨rfl, rfl⟩ | skip
  case boolean.int x =>
    simp [ab_ft] at h
    rcases h with rfl | rfl
    · show narrow .boolean (.int 0) = .int 0 ∧ fits .boolean (.int 0) = true
      decide
    · show narrow .boolean (.int 1) = .int 1 ∧ fits .boolean (.int 1) = true
      decide
  all_goals
    simp only [ab_ft, Bool.and_eq_true, beq_iff_eq] at h
    refine ⟨?_, h.2⟩
    show Value.int _ = Value.int _
    congr 1
    exact h.1
/-- an index is in range -/
def ab_ix (x : Int32) (n : Nat) : Bool := !(decide (x < 0)) && decide (x.toNatClampNeg < n)
theorem ab_ix_in {x : Int32} {n : Nat} (h : ab_ix x n = true) : ¬ (x < 0 ∨ n ≤ x.toNatClampNeg) := by
  simp [ab_ix] at h
  intro q
  rcases q with q | q
  · exact absurd q (by have := h.1; simpa using this)
  · omega
def ab_ald (aty : List FieldType) (oa : Nat → Option (FieldType × Nat × (Nat → Value))) (ty : FieldType) (pc : Nat) (S : List Value) (h : ab_H) : Option (Nat × List Value × ab_H) := match S with
  | .int x :: .ref j :: r => (match h[j]? with
    | some (.inl (t, n, f)) => if aty[t]? = some ty ∧ ab_ix x n = true then some (pc + 1, f x.toNatClampNeg :: r, h) else none
    | _ => none)
  | .int x :: .float w :: r => (match oa w.toNat with
    | some (t, n, f) => if t = ty ∧ ab_ix x n = true then some (pc + 1, f x.toNatClampNeg :: r, h) else none
    | _ => none)
  | _ => none
def ab_isR (ty : FieldType) : Bool := match ty with
  | .object _ => true
  | _ => false
def ab_s2 (cl : List vw_C) (ct : Nat → Nat → FieldType) (cd : Nat → List Value) (aty : List FieldType) (oa : Nat → Option (FieldType × Nat × (Nat → Value))) (NC NS : Nat) (pl : Nat → Option ab_N) (ini : Bool) (i : Instr) (pc : Nat) (S : List Value) (h : ab_H) : Option (Nat × List Value × ab_H) := match i with
  | .getfield x => (match pl x, S with
    | some (k0, a, b, _), .ref j :: r => (match h[j]? with
      | some (.inr (ci, fs)) => if (k0 = 0 ∨ k0 = 8) ∧ ci = a then (match fs[b]? with | some v => some (pc + 3, v :: r, h) | none => none) else none
      | _ => none)
    | _, _ => none)
  | .putfield x => (match pl x, S with
    | some (k0, a, b, fl), v :: .ref j :: r => (match h[j]? with
      | some (.inr (ci, fs)) => if (k0 = 0 ∨ k0 = 8) ∧ ci = a ∧ b < fs.length ∧ ab_ft (ct ci b) v = true ∧ (((cl[ci]?).map (fun q => (q.2.1 b).2.2.2)) = some false ∨ (k0 = 0 ∧ ini = true ∧ fl = .int 1)) then some (pc + 3, r, h.set j (.inr (ci, fs.set b v))) else none
      | _ => none)
    | _, _ => none)
  | .iaload => ab_ald aty oa .int pc S h
  | .baload => ab_ald aty oa .byte pc S h
  | .caload => ab_ald aty oa .char pc S h
  | .laload => ab_ald aty oa .long pc S h
  | .aaload => (match S with
    | .int x :: .ref j :: r => (match h[j]? with
      | some (.inl (t, n, f)) => if (aty[t]?).map ab_isR = some true ∧ ab_ix x n = true then some (pc + 1, f x.toNatClampNeg :: r, h) else none
      | _ => none)
    | _ => none)
  | .arraylength => (match S with
    | .ref j :: r => (match h[j]? with
      | some (.inl (t, n, f)) => if t < aty.length then some (pc + 1, .int (Int32.ofNat n) :: r, h) else none
      | _ => none)
    | .float w :: r => (match oa w.toNat with
      | some (_, n, _) => some (pc + 1, .int (Int32.ofNat n) :: r, h)
      | _ => none)
    | _ => none)
  | .iastore => (match S with
    | .int y :: .int x :: .ref j :: r => (match h[j]? with
      | some (.inl (t, n, f)) => if aty[t]? = some .int ∧ ab_ix x n = true then some (pc + 1, r, h.set j (.inl (t, n, updV f x.toNatClampNeg (.int y)))) else none
      | _ => none)
    | _ => none)
  | .bastore => (match S with
    | .int y :: .int x :: .ref j :: r => (match h[j]? with
      | some (.inl (t, n, f)) => if aty[t]? = some .byte ∧ ab_ix x n = true then some (pc + 1, r, h.set j (.inl (t, n, updV f x.toNatClampNeg (.int y.toInt8.toInt32)))) else none
      | _ => none)
    | _ => none)
  | .lastore => (match S with
    | .long y :: .int x :: .ref j :: r => (match h[j]? with
      | some (.inl (t, n, f)) => if aty[t]? = some .long ∧ ab_ix x n = true then some (pc + 1, r, h.set j (.inl (t, n, updV f x.toNatClampNeg (.long y)))) else none
      | _ => none)
    | _ => none)
  | .newarray at_ => (match S with
    | .int x :: r => (match aty.findIdx? (fun q => q == newarray.typeOf at_) with
      | some t => if ¬ x < 0 ∧ x.toNatClampNeg ≤ 65536 ∧ h.length + 1 ≤ NC ∧ ab_sz h + x.toNatClampNeg ≤ NS ∧ at_ ≠ .float then some (pc + 2, .ref h.length :: r, h ++ [.inl (t, x.toNatClampNeg, fun _ => defaultValue (newarray.typeOf at_))]) else none
      | none => none)
    | _ => none)
  | .new x => (match pl x with
    | some (2, ci, _, _) => (match cl[ci]? with
      | some q => if h.length + 1 ≤ NC ∧ ab_sz h + q.2.2 ≤ NS then some (pc + 3, .ref h.length :: S, h ++ [.inr (ci, cd ci)]) else none
      | none => none)
    | _ => none)
  | .ldc x => (match pl x with
    | some (3, _, _, .int v) => some (pc + 2, .int v :: S, h)
    | some (7, _, _, .float w) => some (pc + 2, .float w :: S, h)
    | _ => none)
  | .ldc2_w x => (match pl x with
    | some (3, _, _, .long v) => some (pc + 3, .long v :: S, h)
    | _ => none)
  | _ => none
/-- what the words Ts say of an entry -/
def ab_pe (cl : List vw_C) (Ts : List Cond) (own : String) (x : Nat) (n : ab_N) : Prop := match n with
  | (0, a, b, fl) => ∃ (r : vw_C) (ref : String), cl[a]? = some r ∧ b < r.2.2 ∧ Cond.fieldLink own x ref (r.2.1 b).2.1 (r.2.1 b).2.2.1 ∈ Ts ∧ (ref = (r.2.1 b).1 ∨ Cond.sameField ref (r.2.1 b).1 (r.2.1 b).2.1 (r.2.1 b).2.2.1 ∈ Ts) ∧ (fl = .int 1 → (r.2.1 b).2.2.2 = true ∧ (r.2.1 b).1 = own)
  | (8, a, b, _) => ∃ (r : vw_C) (ref host : String), cl[a]? = some r ∧ b < r.2.2 ∧ Cond.fieldLinkNest own x ref (r.2.1 b).2.1 (r.2.1 b).2.2.1 host ∈ Ts ∧ (ref = (r.2.1 b).1 ∨ Cond.sameField ref (r.2.1 b).1 (r.2.1 b).2.1 (r.2.1 b).2.2.1 ∈ Ts)
  | (2, ci, _, _) => ∃ r : vw_C, cl[ci]? = some r ∧ Cond.classLink own x r.1 ∈ Ts ∧ Cond.instantiable r.1 r.2.2 ∈ Ts ∧ Cond.initialized r.1 ∈ Ts
  | (3, _, _, .int v) => Cond.constant own x v ∈ Ts
  | (3, _, _, .long v) => Cond.constantLong own x v ∈ Ts
  | _ => True
theorem ab_same {Ts : List Cond} {s : State} (hTs : ∀ w ∈ Ts, va_Nw w s) {ref O n d : String} (h : ref = O ∨ Cond.sameField ref O n d ∈ Ts) : ∀ z, s.fieldFound? O n d = some z → s.fieldFound? ref n d = some z := by
  intro z hz
  rcases h with rfl | h
  · exact hz
  · exact u_same (args := #[]) (va_Nw.use rfl (hTs _ h)) z hz
/-- the classes: what is fixed, and what the tables say -/
def ab_CS (cl : List vw_C) (ct : Nat → Nat → FieldType) (cd : Nat → List Value) : Prop := ∀ (ci : Nat) (r : vw_C), cl[ci]? = some r →
  (∀ k, k < r.2.2 → parseFieldDescriptor (r.2.1 k).2.2.1 = some (ct ci k)) ∧ (∀ a, a < r.2.2 → ∀ b, b < r.2.2 → a ≠ b → (r.2.1 a).2.1 ≠ (r.2.1 b).2.1) ∧ (∀ j, j < r.2.2 → defaultValue (ct ci j) = vp_V (cd ci) j) ∧ (cd ci).length = r.2.2 ∧ (∀ v ∈ cd ci, ∀ (B : Nat) (od : Nat → Nat), ab_v B od v = v)
def ab_KC (D : va_G) (cl : List vw_C) (s : State) : Prop := ∀ (ci : Nat) (r : vw_C), cl[ci]? = some r → u_Kn s r.1 r.2.1 r.2.2 (D.1 ci) (D.2 ci) ∧ ∀ (A : Array Value), ∀ w ∈ u_ws r.1 r.2.1 r.2.2, w.before A s = true
def ab_KA (dA : Nat → ClassId) (aty : List FieldType) (s : State) : Prop := ∀ (t : Nat) (ty : FieldType), aty[t]? = some ty → ArrOfT s (dA t) ty ∧ va_RA s (dA t) ty ∧ ((∃ x, newarray.typeOf x = ty) → (Cond.arrayClass ty).before #[] s = true)
def ab_OA (B : Nat) (od : Nat → Nat) (oa : Nat → Option (FieldType × Nat × (Nat → Value))) (s : State) (H : Heap) : Prop := ∀ (w : Nat) (t : FieldType) (n : Nat) (f : Nat → Value), oa w = some (t, n, f) → od w < B ∧ ∃ cell : Cell, H[od w]? = some cell ∧ s.isArrayOf cell t ∧ cell.vm ≠ .unknown ∧ (n ≤ cell.slots.size ∧ cell.slots.size.toInt32 = Int32.ofNat n) ∧ ∀ j, j < n → cell.slots[j]? = some (ab_v B od (f j))
section AB2
variable {p : Program} {l : Launch} {e : Env} {R : Room} {s : State} {m : MethodId} {args : Array Value} {below : List Frame} {meth : Method} {c : Code} {H : Heap} {locs : List Loc} {cells slots : Nat} {Q : State → Prop}
variable {cc : ByteArray} {pc pc' nL len B n0 z0 NC NS : Nat} {od : Nat → Nat} {S S' : List Value} {h h' : ab_H} {i : Instr} {ls : Array Slot} {own : String}
variable {D : va_G} {dA : Nat → ClassId} {cl : List vw_C} {ct : Nat → Nat → FieldType} {cd : Nat → List Value} {aty : List FieldType} {oa : Nat → Option (FieldType × Nat × (Nat → Value))} {pl : Nat → Option ab_N} {ini : Bool} {Ts : List Cond}
/-- an object's field is read -/
theorem ab_getf (hx : p.tables.exec = Jvm.exec) (hb : c.code = cc) (hown : s.vm.findClass own = some m.cls) (hTs : ∀ w ∈ Ts, va_Nw w s) (hKC : ab_KC D cl s) (hR : ab_R B od D dA cl NC NS s.heap n0 z0 h H locs cells slots)
    {x k0 a b j : Nat} {fl v : Value} {fs r : List Value} (hk0 : k0 = 0 ∨ k0 = 8) (hp : ab_pe cl Ts own x (k0, a, b, fl)) (hj : h[j]? = some (.inr (a, fs))) (hv : fs[b]? = some v) (hdg : decode cc pc = .ok (.getfield x, 3))
    (k : W p l e R s m args below meth c H locs cells slots Q (F0 m (pc + 3) ls (ab_v B od v :: r))) : W p l e R s m args below meth c H locs cells slots Q (F0 m pc ls (.ref (B + j) :: r)) := by
  obtain ⟨r1, hc1, cell, q1, q2, q3, q4⟩ := hR.1 j _ hj
  obtain ⟨hKn, hws⟩ := hKC a r1 hc1
  obtain ⟨hS, hfc, kC, hkC, hkind⟩ := hKn
  have hsl : ∀ (bb : Nat), bb < r1.2.2 → bb = b → ∃ (cf : Nat) (kf : Class) (fi : Nat) (f : Field), s.fieldFound? (r1.2.1 bb).1 (r1.2.1 bb).2.1 (r1.2.1 bb).2.2.1 = some (cf, kf, fi, f) ∧ f.isStatic = false ∧ cell.slots[f.slot]? = some (ab_v B od v) := by
    intro bb hbb e1
    subst e1
    obtain ⟨cf, kf, fi, f, hi, hsl⟩ := hS bb hbb
    refine ⟨cf, kf, fi, f, hi, (u_facts hfc hkC (u_lays (hws args) (fun w hw => hw) hbb) hi).1, ?_⟩
    rw [hsl, q4 bb hbb]
    simp [vp_V, hv]
  rcases hk0 with rfl | rfl
  · obtain ⟨r2, ref, hc2, hb2, hl2, hs2, -⟩ := hp
    cases hc1.symm.trans hc2
    obtain ⟨cf, kf, fi, f, hi, hst, hval⟩ := hsl b hb2 rfl
    exact W.getf hx hb hown (va_Nw.use rfl (hTs _ hl2)) (ab_same hTs hs2 _ hi) hst q1 (by rw [q3]; exact fun h => by cases h) hval rfl rfl hdg k
  · obtain ⟨r2, ref, host, hc2, hb2, hl2, hs2⟩ := hp
    cases hc1.symm.trans hc2
    obtain ⟨cf, kf, fi, f, hi, hst, hval⟩ := hsl b hb2 rfl
    exact va_Wgetf hx hb hown (va_Nw.use rfl (hTs _ hl2)) (ab_same hTs hs2 _ hi) hst q1 (by rw [q3]; exact fun h => by cases h) hval rfl rfl hdg k
theorem ab_putf (hx : p.tables.exec = Jvm.exec) (hb : c.code = cc) (hown : s.vm.findClass own = some m.cls) (hTs : ∀ w ∈ Ts, va_Nw w s) (hKC : ab_KC D cl s) (hCS : ab_CS cl ct cd) (hR : ab_R B od D dA cl NC NS s.heap n0 z0 h H locs cells slots) (hini : ini = true → meth.name = "<init>")
    {x k0 a b j : Nat} {fl v : Value} {fs r : List Value} (hk0 : k0 = 0 ∨ k0 = 8) (hp : ab_pe cl Ts own x (k0, a, b, fl)) (hj : h[j]? = some (.inr (a, fs))) (hbl : b < fs.length) (hft : ab_ft (ct a b) v = true)
    (hfin : ((cl[a]?).map (fun q => (q.2.1 b).2.2.2)) = some false ∨ (k0 = 0 ∧ ini = true ∧ fl = .int 1)) (hdg : decode cc pc = .ok (.putfield x, 3))
    (k : ∀ (H1 : Heap) (locs1 : List Loc), ab_R B od D dA cl NC NS s.heap n0 z0 (h.set j (.inr (a, fs.set b v))) H1 locs1 cells slots → W p l e R s m args below meth c H1 locs1 cells slots Q (F0 m (pc + 3) ls r)) : W p l e R s m args below meth c H locs cells slots Q (F0 m pc ls (ab_v B od v :: .ref (B + j) :: r)) := by
  obtain ⟨r1, hc1, cell, q1, q2, q3, q4⟩ := hR.1 j _ hj
  obtain ⟨hKn, hws⟩ := hKC a r1 hc1
  obtain ⟨c1, c2, c3, c4, -⟩ := hCS a r1 hc1
  have hKn2 := hKn
  obtain ⟨hS, hfc, kC, hkC, hkind⟩ := hKn
  obtain ⟨hn, hfit⟩ := ab_ft_ok (B := B) (od := od) hft
  have hap : ∀ x y, x < r1.2.2 → y < r1.2.2 → x ≠ y → (D.2 a) x ≠ (D.2 a) y := by
    intro x y hx hy hne
    obtain ⟨_, _, _, fa, hia, ea⟩ := hS x hx
    obtain ⟨_, _, _, fb, hib, eb⟩ := hS y hy
    rw [← ea, ← eb]
    refine u_apart (u_lays (hws args) (fun w hw => hw) hx) (u_lays (hws args) (fun w hw => hw) hy) hia hib ?_
    rw [(State.fieldFound?_type hia (c1 x hx)).1, (State.fieldFound?_type hib (c1 y hy)).1]
    exact c2 x hx y hy hne
  have fin : ∀ (hb2 : b < r1.2.2) (H1 : Heap), H1[B + j]? = some (cell.setSlot (D.2 a b) (ab_v B od v)) → H1.size = H.size → (∀ q, q ≠ B + j → H1[q]? = H[q]?) → ab_R B od D dA cl NC NS s.heap n0 z0 (h.set j (.inr (a, fs.set b v))) H1 (locs ++ [⟨B + j, D.2 a b⟩]) cells slots := by
    intro hb2 H1 e1 e2 e3
    refine hR.set hj (by simp [ab_sz1]) ⟨r1, hc1, ?_⟩ e2 e3
    refine t_OB.to (V := updV (vp_V (fs.map (ab_v B od))) b (ab_v B od v)) ⟨_, e1, q2, q3, t_set q4 hap hb2 _⟩ (fun jj _ => ?_)
    rw [vp_updV_set (by simpa using hbl), List.map_set]
  rcases hk0 with rfl | rfl
  · obtain ⟨r2, ref, hc2, hb2, hl2, hs2, hf2⟩ := hp
    cases hc1.symm.trans hc2
    obtain ⟨cf, kf, fi, f, hi, hsl⟩ := hS b hb2
    have hst := (u_facts hfc hkC (u_lays (hws args) (fun w hw => hw) hb2) hi).1
    have hlay := hws args _ (u_in_lay hb2)
    unfold u_lay at hlay
    rcases hfin with hfin | ⟨-, hi1, hf1⟩
    · have hff : (r1.2.1 b).2.2.2 = false := by rw [hc1] at hfin; simpa using hfin
      rw [if_neg (by rw [hff]; decide)] at hlay
      have h6 := u_store hfc hkC hkind hlay hi (c1 b hb2) hn hfit
      refine W.putK hx hb (f := f) ⟨hown, va_Nw.use rfl (hTs _ hl2), ⟨_, _, _, ab_same hTs hs2 _ hi⟩, hst⟩ (by rw [q2]; exact h6) q1 q3 (by rw [hsl]; exact k2_hasslot (q4 b hb2)) rfl rfl hdg fun H' e1 e2 e3 => ?_
      rw [hsl] at e1 ⊢
      exact k H' _ (fin hb2 H' e1 e2 e3)
    · obtain ⟨g1, g2⟩ := hf2 hf1
      rw [if_pos g1] at hlay
      have hcf : m.cls = cf := by
        obtain ⟨_, _, c', _, _, _, -, -, hf', -, -, -, hown2, -⟩ := Cond.laysFinal_spec hlay
        have e1 : c' = cf := by have := hi.symm.trans hf'; simp at this; exact this.1.symm
        rw [g2] at hown2
        rw [← e1]; exact Option.some.inj (hown.symm.trans hown2)
      have h6 := u_fits hfc hkC hkind (Or.inr hlay) hi (c1 b hb2) hn hfit
      refine W.putFinK hx hb hown (va_Nw.use rfl (hTs _ hl2)) (ab_same hTs hs2 _ hi) hst hcf (hini hi1) (by rw [q2]; exact h6) q1 q3 (by rw [hsl]; exact k2_hasslot (q4 b hb2)) rfl rfl hdg fun H' e1 e2 e3 => ?_
      rw [hsl] at e1 ⊢
      exact k H' _ (fin hb2 H' e1 e2 e3)
  · obtain ⟨r2, ref, host, hc2, hb2, hl2, hs2⟩ := hp
    cases hc1.symm.trans hc2
    obtain ⟨cf, kf, fi, f, hi, hsl⟩ := hS b hb2
    have hst := (u_facts hfc hkC (u_lays (hws args) (fun w hw => hw) hb2) hi).1
    have hlay := hws args _ (u_in_lay hb2)
    unfold u_lay at hlay
    have hfin : ((cl[a]?).map (fun q => (q.2.1 b).2.2.2)) = some false := by
      rcases hfin with h1 | ⟨h1, -⟩
      · exact h1
      · cases h1
    have hff : (r1.2.1 b).2.2.2 = false := by rw [hc1] at hfin; simpa using hfin
    rw [if_neg (by rw [hff]; decide)] at hlay
    have h6 := u_store hfc hkC hkind hlay hi (c1 b hb2) hn hfit
    refine va_WputK hx hb (f := f) hown (va_Nw.use rfl (hTs _ hl2)) (ab_same hTs hs2 _ hi) hst (by rw [q2]; exact h6) q1 q3 (by rw [hsl]; exact k2_hasslot (q4 b hb2)) rfl rfl hdg fun H' e1 e2 e3 => ?_
    rw [hsl] at e1 ⊢
    exact k H' _ (fin hb2 H' e1 e2 e3)
/-- an array of this activation's is read -/
theorem ab_arr (hKA : ab_KA dA aty s) (hR : ab_R B od D dA cl NC NS s.heap n0 z0 h H locs cells slots) {j t n : Nat} {f : Nat → Value} {ty : FieldType} (hj : h[j]? = some (.inl (t, n, f))) (ht : aty[t]? = some ty) :
    ∃ cell : Cell, H[B + j]? = some cell ∧ s.isArrayOf cell ty ∧ cell.vm ≠ .unknown ∧ (n ≤ cell.slots.size ∧ cell.slots.size.toInt32 = Int32.ofNat n) ∧ ∀ q, q < n → cell.slots[q]? = some (ab_v B od (f q)) := by
  have h1 : H[B + j]? = some (arrV (dA t) n (fun q => ab_v B od (f q))) := hR.1 j _ hj
  exact ⟨_, h1, (hKA t ty ht).1 n _, (fun q => by cases q), ⟨by rw [arrV_size]; exact Nat.le_refl _, by rw [arrV_size]⟩, fun q hq => arrV_read _ _ hq⟩
theorem ab_old (hOA : ab_OA B od oa s s.heap) (hR : ab_R B od D dA cl NC NS s.heap n0 z0 h H locs cells slots) {w n : Nat} {f : Nat → Value} {ty : FieldType} (hw : oa w = some (ty, n, f)) :
    ∃ cell : Cell, H[od w]? = some cell ∧ s.isArrayOf cell ty ∧ cell.vm ≠ .unknown ∧ (n ≤ cell.slots.size ∧ cell.slots.size.toInt32 = Int32.ofNat n) ∧ ∀ q, q < n → cell.slots[q]? = some (ab_v B od (f q)) := by
  obtain ⟨g1, cell, g2, g3⟩ := hOA w ty n f hw
  have g4 := (Array.getElem?_eq_some_iff.mp g2).1
  exact ⟨cell, (hR.2.2.1.2.1 (od w) g4 (by omega)).trans g2, g3⟩
theorem ab_ald_ok (hKA : ab_KA dA aty s) (hOA : ab_OA B od oa s s.heap) (hR : ab_R B od D dA cl NC NS s.heap n0 z0 h H locs cells slots) {ty : FieldType}
    (row : ∀ {a : Addr} {cell : Cell} {j : Int32} {v : Value} {r : List Value}, H[a]? = some cell → s.isArrayOf cell ty → cell.vm ≠ .unknown → ¬ (j < 0 ∨ cell.slots.size ≤ j.toNatClampNeg) → cell.slots[j.toNatClampNeg]? = some v →
      W p l e R s m args below meth c H locs cells slots Q (F0 m (pc + 1) ls (v :: r)) → W p l e R s m args below meth c H locs cells slots Q (F0 m pc ls (.int j :: .ref a :: r)))
    (hs : ab_ald aty oa ty pc S h = some (pc', S', h')) (k : h' = h → W p l e R s m args below meth c H locs cells slots Q (F0 m pc' ls (S'.map (ab_v B od)))) : W p l e R s m args below meth c H locs cells slots Q (F0 m pc ls (S.map (ab_v B od))) := by
  unfold ab_ald at hs
  split at hs
  · rename_i x j r
    split at hs
    · rename_i t n f hj
      split at hs
      · rename_i hc
        cases hs
        obtain ⟨cell, g1, g2, g3, g4, g5⟩ := ab_arr hKA hR hj hc.1
        have hin := ab_ix_in hc.2
        exact row g1 g2 g3 (fun q => by rcases q with q | q; exact hin (Or.inl q); exact hin (Or.inr (Nat.le_trans g4.1 q))) (g5 _ (by omega)) (k rfl)
      · cases hs
    · cases hs
  · rename_i x w r
    split at hs
    · rename_i t n f hw
      split at hs
      · rename_i hc
        obtain ⟨rfl, hc2⟩ := hc
        cases hs
        obtain ⟨cell, g1, g2, g3, g4, g5⟩ := ab_old hOA hR hw
        have hin := ab_ix_in hc2
        exact row g1 g2 g3 (fun q => by rcases q with q | q; exact hin (Or.inl q); exact hin (Or.inr (Nat.le_trans g4.1 q))) (g5 _ (by omega)) (k rfl)
      · cases hs
    · cases hs
  · cases hs
/-- an element is written -/
theorem ab_ast (hR : ab_R B od D dA cl NC NS s.heap n0 z0 h H locs cells slots) {j t n : Nat} {f : Nat → Value} {v : Value} {ix : Nat} {H1 : Heap} (hj : h[j]? = some (.inl (t, n, f)))
    (e1 : H1[B + j]? = some ((arrV (dA t) n (fun q => ab_v B od (f q))).setSlot ix (ab_v B od v))) (e2 : H1.size = H.size) (e3 : ∀ q, q ≠ B + j → H1[q]? = H[q]?) :
    ab_R B od D dA cl NC NS s.heap n0 z0 (h.set j (.inl (t, n, updV f ix v))) H1 (locs ++ [⟨B + j, ix⟩]) cells slots := by
  refine hR.set hj rfl ?_ e2 e3
  show H1[B + j]? = some (arrV (dA t) n (fun q => ab_v B od (updV f ix v q)))
  rw [e1, arrV_store]
  congr 2
  funext q
  by_cases hq : q = ix
  · subst hq; simp [updV]
  · simp [updV, hq]
theorem ab_find {α : Type} {P : α → Bool} {xs : List α} {t : Nat} (h : xs.findIdx? P = some t) : ∃ y, xs[t]? = some y ∧ P y = true := by
  obtain ⟨h1, h2, -⟩ := List.findIdx?_eq_some_iff_getElem.mp h
  exact ⟨xs[t], List.getElem?_eq_getElem h1, h2⟩
set_option maxHeartbeats 8000000 in
theorem ab_s2_ok (hx : p.tables.exec = Jvm.exec) (hb : c.code = cc) (hown : s.vm.findClass own = some m.cls) (hTs : ∀ w ∈ Ts, va_Nw w s) (hKC : ab_KC D cl s) (hCS : ab_CS cl ct cd) (hKA : ab_KA dA aty s) (hOA : ab_OA B od oa s s.heap) (hPL : ∀ x n, pl x = some n → ab_pe cl Ts own x n) (hST : ∀ x a b w, pl x = some (7, a, b, .float w) → ∃ tx : String, vk_R own x tx (od w.toNat) s) (hini : ini = true → meth.name = "<init>")
    (hNC : NC ≤ n0 + R.cells) (hNS : NS ≤ z0 + R.slots) (hdg : decode cc pc = .ok (i, len)) (hlen : ab_len i = 0 ∨ len = ab_len i) (hs : ab_s2 cl ct cd aty oa NC NS pl ini i pc S h = some (pc', S', h')) (hR : ab_R B od D dA cl NC NS s.heap n0 z0 h H locs cells slots)
    (k : ∀ (H' : Heap) (locs' : List Loc) (cells' slots' : Nat), ab_R B od D dA cl NC NS s.heap n0 z0 h' H' locs' cells' slots' → W p l e R s m args below meth c H' locs' cells' slots' Q (F0 m pc' ls (S'.map (ab_v B od)))) :
    W p l e R s m args below meth c H locs cells slots Q (F0 m pc ls (S.map (ab_v B od))) := by
  rcases hlen with hlen | hlen
  · cases i
    all_goals first | (simp only [ab_s2] at hs; cases hs; done) | (revert hlen; simp [ab_len]; done)
  subst hlen
  cases i
  case getfield x =>
    simp only [ab_s2] at hs
    split at hs
    · rename_i k0 a b fl j r hp
      split at hs
      · rename_i ci fs hj
        split at hs
        · rename_i hc
          obtain ⟨hk0, rfl⟩ := hc
          split at hs
          · rename_i v hv
            cases hs
            exact ab_getf hx hb hown hTs hKC hR hk0 (hPL _ _ hp) hj hv hdg (k _ _ _ _ hR)
          · cases hs
        · cases hs
      · cases hs
    · cases hs
  case putfield x =>
    simp only [ab_s2] at hs
    split at hs
    · rename_i k0 a b fl v j r hp
      split at hs
      · rename_i ci fs hj
        split at hs
        · rename_i hc
          obtain ⟨hk0, rfl, hbl, hft, hfin⟩ := hc
          cases hs
          exact ab_putf hx hb hown hTs hKC hCS hR hini hk0 (hPL _ _ hp) hj hbl hft hfin hdg (fun H1 locs1 hR1 => k _ _ _ _ hR1)
        · cases hs
      · cases hs
    · cases hs
  case iaload =>
    simp only [ab_s2] at hs
    exact ab_ald_ok hKA hOA hR (fun g1 g2 g3 g4 g5 kk => W.iald hx hb g1 g2 g3 g4 g5 rfl rfl hdg kk) hs (fun he => by subst he; exact k _ _ _ _ hR)
  case baload =>
    simp only [ab_s2] at hs
    exact ab_ald_ok hKA hOA hR (fun g1 g2 g3 g4 g5 kk => W.bald hx hb g1 g2 g3 g4 g5 rfl rfl hdg kk) hs (fun he => by subst he; exact k _ _ _ _ hR)
  case caload =>
    simp only [ab_s2] at hs
    exact ab_ald_ok hKA hOA hR (fun g1 g2 g3 g4 g5 kk => W.cald hx hb g1 g2 g3 g4 g5 rfl rfl hdg kk) hs (fun he => by subst he; exact k _ _ _ _ hR)
  case laload =>
    simp only [ab_s2] at hs
    exact ab_ald_ok hKA hOA hR (fun g1 g2 g3 g4 g5 kk => W.lald hx hb g1 g2 g3 g4 g5 rfl rfl hdg kk) hs (fun he => by subst he; exact k _ _ _ _ hR)
  case aaload =>
    simp only [ab_s2] at hs
    split at hs
    · rename_i x j r
      split at hs
      · rename_i t n f hj
        split at hs
        · rename_i hc
          cases hs
          obtain ⟨ty, ht, hty⟩ : ∃ ty, aty[t]? = some ty ∧ ty.isReference = true := by
            cases ha : aty[t]? with
            | none => rw [ha] at hc; simp at hc
            | some ty =>
              refine ⟨ty, rfl, ?_⟩
              rw [ha] at hc
              cases ty <;> first | rfl | (simp [ab_isR] at hc)
          obtain ⟨cell, g1, g2, g3, g4, g5⟩ := ab_arr hKA hR hj ht
          have hin := ab_ix_in hc.2
          exact W.aald hx hb g1 g2 hty g3 (fun q => by rcases q with q | q; exact hin (Or.inl q); exact hin (Or.inr (Nat.le_trans g4.1 q))) (g5 _ (by omega)) rfl rfl hdg (k _ _ _ _ hR)
        · cases hs
      · cases hs
    · cases hs
  case arraylength =>
    simp only [ab_s2] at hs
    split at hs
    · rename_i j r
      split at hs
      · rename_i t n f hj
        split at hs
        · rename_i hc
          cases hs
          obtain ⟨cell, g1, g2, g3, g4, g5⟩ := ab_arr hKA hR hj (List.getElem?_eq_getElem hc)
          exact W.alen hx hb g1 g2 g4.2 rfl rfl hdg (k _ _ _ _ hR)
        · cases hs
      · cases hs
    · rename_i w r
      split at hs
      · rename_i t n f hw
        cases hs
        obtain ⟨cell, g1, g2, g3, g4, g5⟩ := ab_old hOA hR hw
        exact W.alen hx hb g1 g2 g4.2 rfl rfl hdg (k _ _ _ _ hR)
      · cases hs
    · cases hs
  case iastore =>
    simp only [ab_s2] at hs
    split at hs
    · rename_i y x j r
      split at hs
      · rename_i t n f hj
        split at hs
        · rename_i hc
          cases hs
          have hin := ab_ix_in hc.2
          exact W.iast hx hb (hR.1 j _ hj) ((hKA t _ hc.1).1 n _) (fun q => by cases q) (by rw [arrV_size]; exact hin) rfl rfl hdg (fun H1 e1 e2 e3 => k _ _ _ _ (ab_ast hR hj e1 e2 e3))
        · cases hs
      · cases hs
    · cases hs
  case bastore =>
    simp only [ab_s2] at hs
    split at hs
    · rename_i y x j r
      split at hs
      · rename_i t n f hj
        split at hs
        · rename_i hc
          cases hs
          have hin := ab_ix_in hc.2
          exact W.bast hx hb (hR.1 j _ hj) ((hKA t _ hc.1).1 n _) (fun q => by cases q) (by rw [arrV_size]; exact hin) rfl rfl hdg (fun H1 e1 e2 e3 => k _ _ _ _ (ab_ast hR hj e1 e2 e3))
        · cases hs
      · cases hs
    · cases hs
  case lastore =>
    simp only [ab_s2] at hs
    split at hs
    · rename_i y x j r
      split at hs
      · rename_i t n f hj
        split at hs
        · rename_i hc
          cases hs
          have hin := ab_ix_in hc.2
          exact W.last hx hb (hR.1 j _ hj) ((hKA t _ hc.1).1 n _) (fun q => by cases q) (by rw [arrV_size]; exact hin) rfl rfl hdg (fun H1 e1 e2 e3 => k _ _ _ _ (ab_ast hR hj e1 e2 e3))
        · cases hs
      · cases hs
    · cases hs
  case newarray at_ =>
    simp only [ab_s2] at hs
    split at hs
    · rename_i x r
      split at hs
      · rename_i t ht
        split at hs
        · rename_i hc
          obtain ⟨hn, hbig, hc1, hc2, hfl⟩ := hc
          cases hs
          obtain ⟨y, hy, hy2⟩ := ab_find ht
          have hy3 : y = newarray.typeOf at_ := by simpa using hy2
          subst hy3
          obtain ⟨hA1, hA2, hA3⟩ := hKA t _ hy
          have hb4 : x.toNatClampNeg * componentBytes (newarray.typeOf at_) ≤ 536870912 := by
            have : componentBytes (newarray.typeOf at_) ≤ 8 := by cases at_ <;> decide
            calc _ ≤ x.toNatClampNeg * 8 := Nat.mul_le_mul_left _ this
              _ ≤ 536870912 := by omega
          have q4 := hR.2.2.2.1
          have q5 := hR.2.2.2.2.1
          refine va_newaK hx hb (by have := hA3 ⟨at_, rfl⟩; exact this) rfl hdg rfl hn rfl hb4 (by omega) (by omega) rfl fun H1 cA e1 z1 o1 hAr hNm => ?_
          have hcA : cA = dA t := by
            have q := hA2
            cases at_ <;> exact Option.some.inj (hNm.symm.trans q)
          subst hcA
          have hdv : ab_v B od (defaultValue (newarray.typeOf at_)) = defaultValue (newarray.typeOf at_) := by cases at_ <;> first | rfl | exact absurd rfl hfl
          have hR2 := hR.push (x := .inl (t, x.toNatClampNeg, fun _ => defaultValue (newarray.typeOf at_))) (n := x.toNatClampNeg) (H1 := H1) rfl hc1 hc2 (by show H1[B + h.length]? = some (arrV (dA t) x.toNatClampNeg (fun _ => ab_v B od (defaultValue (newarray.typeOf at_)))); rw [hdv, ← hR.2.1]; exact e1) z1 o1
          have kk := k _ _ _ _ hR2
          rw [hR.2.1]
          exact kk
        · cases hs
      · cases hs
    · cases hs
  case new x =>
    simp only [ab_s2] at hs
    split at hs
    · rename_i ci _ _ hp
      split at hs
      · rename_i q hq
        split at hs
        · rename_i hc
          obtain ⟨hc1, hc2⟩ := hc
          cases hs
          obtain ⟨r, hr, l1, l2, l3⟩ := hPL _ _ hp
          cases hq.symm.trans hr
          obtain ⟨hKn, hws⟩ := hKC ci _ hq
          obtain ⟨c1, c2, c3, c4, c5⟩ := hCS ci _ hq
          have q4 := hR.2.2.2.1
          have q5 := hR.2.2.2.2.1
          refine W.newcK hx hb hown (va_Nw.use rfl (hTs _ l1)) (va_Nw.use rfl (hTs _ l2)) (va_Nw.use rfl (hTs _ l3)) rfl hdg (by omega) (by omega) hKn.2.1 rfl fun H1 kC hkC e1 z1 o1 => ?_
          have hmap : (cd ci).map (ab_v B od) = cd ci := by
            rw [List.map_congr_left (g := id) (fun v hv => c5 v hv B od)]; simp
          have hR2 := hR.push (x := .inr (ci, cd ci)) (n := q.2.2) (H1 := H1) c4 hc1 hc2 ⟨_, hq, by rw [← hR.2.1, hmap]; exact (u_born (ct ci) (hws args) (fun w hw => hw) hKn hkC e1 c1).to c3⟩ z1 o1
          have kk := k _ _ _ _ hR2
          rw [hR.2.1]
          exact kk
        · cases hs
      · cases hs
    · cases hs
  case ldc x =>
    simp only [ab_s2] at hs
    split at hs
    · rename_i _ _ v hp
      cases hs
      have q := hPL _ _ hp
      exact lv_ldc hx hb hown (va_Nw.use rfl (hTs _ q)) hdg (k _ _ _ _ hR)
    · rename_i _ _ w hp
      cases hs
      obtain ⟨tx, q⟩ := hST _ _ _ _ hp
      exact va_ldcS hx hb hown q hdg (k _ _ _ _ hR)
    · cases hs
  case ldc2_w x =>
    simp only [ab_s2] at hs
    split at hs
    · rename_i _ _ v hp
      cases hs
      have q := hPL _ _ hp
      exact lv_ldc2 hx hb hown (va_Nw.use rfl (hTs _ q)) hdg (k _ _ _ _ hR)
    · cases hs
  all_goals (simp only [ab_s2] at hs; cases hs)
end AB2
end
section
/-! more instructions: statics, references compared, casts, arrays of references, old objects -/
def ab_acmp (oa : Nat → Option (FieldType × Nat × (Nat → Value))) (oo : Nat → Option (Nat × List Value)) (a b : Value) : Option Bool := match a, b with
  | .ref x, .ref y => some (x == y)
  | .null, .null => some true
  | .null, .ref _ => some false
  | .ref _, .null => some false
  | .null, .float _ => some false
  | .float _, .null => some false
  | .ref _, .float w => if (oo w.toNat).isSome = true ∨ (oa w.toNat).isSome = true then some false else none
  | .float w, .ref _ => if (oo w.toNat).isSome = true ∨ (oa w.toNat).isSome = true then some false else none
  | .float x, .float y => if x = y then some true else if (oo x.toNat).isSome = true ∧ (oo y.toNat).isSome = true then some false else none
  | _, _ => none
def ab_qa (B : Nat) (od : Nat → Nat) (v : Value) : Option Nat := match v with
  | .ref x => some (B + x)
  | .float w => some (od w.toNat)
  | _ => none
theorem ab_acmp_ok {B : Nat} {od : Nat → Nat} {oa : Nat → Option (FieldType × Nat × (Nat → Value))} {oo : Nat → Option (Nat × List Value)} (hod : ∀ w, ((oo w).isSome = true ∨ (oa w).isSome = true) → od w < B) (hinj : ∀ w w', (oo w).isSome = true → (oo w').isSome = true → od w = od w' → w = w') {a b : Value} {t : Bool} (h : ab_acmp oa oo a b = some t) : ab_v B od a = va_rf (ab_qa B od a) ∧ ab_v B od b = va_rf (ab_qa B od b) ∧ (ab_qa B od a = ab_qa B od b ↔ t = true) := by
  unfold ab_acmp at h
  split at h
  all_goals first | (cases h; done) | skip
  · rename_i x y
    cases h
    refine ⟨rfl, rfl, ?_⟩
    simp [ab_qa]
  · cases h; exact ⟨rfl, rfl, by simp [ab_qa]⟩
  · cases h; exact ⟨rfl, rfl, by simp [ab_qa]⟩
  · cases h; exact ⟨rfl, rfl, by simp [ab_qa]⟩
  · cases h; exact ⟨rfl, rfl, by simp [ab_qa]⟩
  · cases h; exact ⟨rfl, rfl, by simp [ab_qa]⟩
  · rename_i x w
    split at h
    · rename_i hk
      cases h
      refine ⟨rfl, rfl, ?_⟩
      have := hod w.toNat hk
      simp [ab_qa]
      omega
    · cases h
  · rename_i w x
    split at h
    · rename_i hk
      cases h
      refine ⟨rfl, rfl, ?_⟩
      have := hod w.toNat hk
      simp [ab_qa]
      omega
    · cases h
  · rename_i x y
    split at h
    · rename_i e
      subst e
      cases h
      exact ⟨rfl, rfl, by simp⟩
    · rename_i hne
      split at h
      · rename_i hs
        cases h
        refine ⟨rfl, rfl, ?_⟩
        have z : od x.toNat ≠ od y.toNat := fun e => hne (UInt32.toNat_inj.mp (hinj _ _ hs.1 hs.2 e))
        simp [ab_qa, z]
      · cases h
/-- pool: 4 static (its value); 6 array class (place in aty); 12 cast to a class (number); 13 cast to an array class (place in aty) -/
def ab_s4 (aty : List FieldType) (oa : Nat → Option (FieldType × Nat × (Nat → Value))) (sb : List (Nat × Nat)) (oo : Nat → Option (Nat × List Value)) (NC NS : Nat) (pl : Nat → Option ab_N) (i : Instr) (pc tg : Nat) (S : List Value) (h : ab_H) : Option (Nat × List Value × ab_H) := match i with
  | .if_acmp .eq _ => (match S with
    | b :: a :: r => (match ab_acmp oa oo a b with | some t => some (if t = true then tg else pc + 3, r, h) | none => none)
    | _ => none)
  | .if_acmp .ne _ => (match S with
    | b :: a :: r => (match ab_acmp oa oo a b with | some t => some (if t = true then pc + 3 else tg, r, h) | none => none)
    | _ => none)
  | .getstatic x => (match pl x with
    | some (4, _, _, v) => some (pc + 3, v :: S, h)
    | _ => none)
  | .getfield x => (match pl x, S with
    | some (0, a, b, _), .float w :: r => (match oo w.toNat with
      | some (ci, fs) => if ci = a then (match fs[b]? with | some v => some (pc + 3, v :: r, h) | none => none) else none
      | none => none)
    | _, _ => none)
  | .checkcast x => (match S with
    | .null :: _ => some (pc + 3, S, h)
    | .ref j :: _ => (match pl x, h[j]? with
      | some (12, ci, _, _), some (.inr (cj, _)) => if ci = cj then some (pc + 3, S, h) else none
      | some (13, t, _, _), some (.inl (u, _, _)) => if t = u then some (pc + 3, S, h) else none
      | _, _ => none)
    | _ => none)
  | .anewarray x => (match S, pl x with
    | .int y :: r, some (6, t, _, _) => if ¬ y < 0 ∧ y.toNatClampNeg ≤ 65536 ∧ h.length + 1 ≤ NC ∧ ab_sz h + y.toNatClampNeg ≤ NS then some (pc + 3, .ref h.length :: r, h ++ [.inl (t, y.toNatClampNeg, fun _ => .null)]) else none
    | _, _ => none)
  | .aastore => (match S with
    | .ref v :: .int x :: .ref j :: r => (match h[v]?, h[j]? with
      | some (.inr (ci, _)), some (.inl (t, n, f)) => if (t, ci) ∈ sb ∧ ab_ix x n = true then some (pc + 1, r, h.set j (.inl (t, n, updV f x.toNatClampNeg (.ref v)))) else none
      | _, _ => none)
    | .float w :: .int x :: .ref j :: r => (match oo w.toNat, h[j]? with
      | some (ci, _), some (.inl (t, n, f)) => if (t, ci) ∈ sb ∧ ab_ix x n = true then some (pc + 1, r, h.set j (.inl (t, n, updV f x.toNatClampNeg (.float w)))) else none
      | _, _ => none)
    | .null :: .int x :: .ref j :: r => (match h[j]? with
      | some (.inl (t, n, f)) => if (aty[t]?).map ab_isR = some true ∧ ab_ix x n = true then some (pc + 1, r, h.set j (.inl (t, n, updV f x.toNatClampNeg .null))) else none
      | _ => none)
    | _ => none)
  | _ => none
/-- what the words Ts say of such an entry -/
def ab_p4 (cl : List vw_C) (aty : List FieldType) (Ts : List Cond) (own : String) (x : Nat) (n : ab_N) : Prop := match n with
  | (6, t, _, _) => ∃ C : String, aty[t]? = some (.object C) ∧ Cond.classLink own x C ∈ Ts
  | (12, ci, _, _) => ∃ r : vw_C, cl[ci]? = some r ∧ Cond.classLink own x r.1 ∈ Ts
  | (13, t, _, _) => ∃ C : String, aty[t]? = some (.object C) ∧ Cond.classLink own x ("[" ++ (FieldType.object C).toString) ∈ Ts
  | _ => True
def ab_OO (B : Nat) (od : Nat → Nat) (cl : List vw_C) (oo : Nat → Option (Nat × List Value)) (s : State) (H : Heap) : Prop := ∀ (w ci : Nat) (fs : List Value), oo w = some (ci, fs) → ∃ r : vw_C, cl[ci]? = some r ∧ va_O r.1 (od w) (fun q => B ≤ q) s H ∧ ∀ (b : Nat) (v : Value), fs[b]? = some v → b < r.2.2 ∧ va_OF (r.2.1 b).1 (r.2.1 b).2.1 (r.2.1 b).2.2.1 (ab_v B od v) (od w) (fun q => B ≤ q) s H
def ab_SZ (B : Nat) (od : Nat → Nat) (Ts : List Cond) (own : String) (pl : Nat → Option ab_N) (s : State) (H : Heap) : Prop := ∀ (x a b : Nat) (v : Value), pl x = some (4, a, b, v) → ∃ C n d : String, va_Z C n d (ab_v B od v) (fun q => B ≤ q) s H ∧ Cond.fieldLink own x C n d ∈ Ts
section AB4
variable {p : Program} {l : Launch} {e : Env} {R : Room} {s : State} {m : MethodId} {args : Array Value} {below : List Frame} {meth : Method} {c : Code} {H : Heap} {locs : List Loc} {cells slots : Nat} {Q : State → Prop}
variable {cc : ByteArray} {pc pc' tg nL len B n0 z0 NC NS : Nat} {od : Nat → Nat} {S S' : List Value} {h h' : ab_H} {i : Instr} {ls : Array Slot} {own : String}
variable {D : va_G} {dA : Nat → ClassId} {cl : List vw_C} {aty : List FieldType} {oa : Nat → Option (FieldType × Nat × (Nat → Value))} {sb : List (Nat × Nat)} {oo : Nat → Option (Nat × List Value)} {pl : Nat → Option ab_N} {Ts : List Cond}
theorem ab_aast (hx : p.tables.exec = Jvm.exec) (hb : c.code = cc) (hTs : ∀ w ∈ Ts, va_Nw w s) (hKC : ab_KC D cl s) (hKA : ab_KA dA aty s) (hsb : ∀ t ci, (t, ci) ∈ sb → ∃ (E : String) (r : vw_C), aty[t]? = some (.object E) ∧ cl[ci]? = some r ∧ (r.1 = E ∨ Cond.castable r.1 E ∈ Ts)) (hR : ab_R B od D dA cl NC NS s.heap n0 z0 h H locs cells slots)
    {t ci j n : Nat} {f : Nat → Value} {v : Value} {a : Nat} {x : Int32} {r : List Value} (hv : ab_v B od v = .ref a) (hcell : ∃ cell : Cell, H[a]? = some cell ∧ cell.vm.isStatics = false ∧ ∀ r : vw_C, cl[ci]? = some r → s.vm.findClass r.1 = some cell.cls) (hj : h[j]? = some (.inl (t, n, f))) (hin : (t, ci) ∈ sb) (hix : ab_ix x n = true) (hdg : decode cc pc = .ok (.aastore, 1))
    (k : ∀ (H1 : Heap) (locs1 : List Loc), ab_R B od D dA cl NC NS s.heap n0 z0 (h.set j (.inl (t, n, updV f x.toNatClampNeg v))) H1 locs1 cells slots → W p l e R s m args below meth c H1 locs1 cells slots Q (F0 m (pc + 1) ls r)) : W p l e R s m args below meth c H locs cells slots Q (F0 m pc ls (ab_v B od v :: .int x :: .ref (B + j) :: r)) := by
  obtain ⟨E, r1, ht, hr1, hw⟩ := hsb t ci hin
  obtain ⟨hA1, hA2, -⟩ := hKA t _ ht
  obtain ⟨kA, comp, k1, k2, k3, -⟩ := hA2
  obtain ⟨kE, hkE, -⟩ := Vm.findClass_spec k3
  obtain ⟨cellV, g1, g2, g3⟩ := hcell
  have g3 := g3 r1 hr1
  have f3 : s.vm.assignable cellV.cls comp = true := by
    rcases hw with rfl | hw
    · cases g3.symm.trans k3
      have hca := (hKC ci r1 hr1).1.2
      have he := Option.some.inj (hca.1.symm.trans g3)
      have h1 := va_assign hca
      rw [he] at h1
      exact h1
    · obtain ⟨c0, t1, f1, f2, f3⟩ := Cond.castable_spec (hTs _ hw)
      cases g3.symm.trans f1
      cases k3.symm.trans f2
      exact f3
  obtain ⟨kC, hkC, -⟩ := Vm.findClass_spec g3
  have hin2 := ab_ix_in hix
  rw [hv]
  refine W.aast hx hb (hR.1 j _ hj) (fun q h => by cases h) (fun h => by cases h) k1 k2 rfl hkE ⟨fun q => hin2 (Or.inl q), by rw [arrV_size]; omega⟩ g1 (fun q h => by rw [h] at g2; cases g2) hkC f3 rfl rfl hdg fun H1 e1 e2 e3 => ?_
  exact k H1 _ (ab_ast hR hj (by rw [hv]; exact e1) e2 e3)
set_option maxHeartbeats 8000000 in
theorem ab_s4_ok (hx : p.tables.exec = Jvm.exec) (hb : c.code = cc) (hown : s.vm.findClass own = some m.cls) (hTs : ∀ w ∈ Ts, va_Nw w s) (hKC : ab_KC D cl s) (hKA : ab_KA dA aty s) (hAO : ∀ (t : Nat) (C : String), aty[t]? = some (.object C) → va_AO C s) (hOA : ab_OA B od oa s s.heap) (hinj : ∀ w w', (oo w).isSome = true → (oo w').isSome = true → od w = od w' → w = w') (hOO : ab_OO B od cl oo s s.heap) (hSZ : ab_SZ B od Ts own pl s s.heap)
    (hsb : ∀ t ci, (t, ci) ∈ sb → ∃ (E : String) (r : vw_C), aty[t]? = some (.object E) ∧ cl[ci]? = some r ∧ (r.1 = E ∨ Cond.castable r.1 E ∈ Ts)) (hPL : ∀ x n, pl x = some n → ab_pe cl Ts own x n) (hP4 : ∀ x n, pl x = some n → ab_p4 cl aty Ts own x n)
    (hNC : NC ≤ n0 + R.cells) (hNS : NS ≤ z0 + R.slots) (hdg : decode cc pc = .ok (i, len)) (hlen : ab_len i = 0 ∨ len = ab_len i) (htg0 : ∀ off, ab_off i = some off → (pc : Int) + off = (tg : Int)) (hs : ab_s4 aty oa sb oo NC NS pl i pc tg S h = some (pc', S', h')) (hR : ab_R B od D dA cl NC NS s.heap n0 z0 h H locs cells slots)
    (k : ∀ (H' : Heap) (locs' : List Loc) (cells' slots' : Nat), ab_R B od D dA cl NC NS s.heap n0 z0 h' H' locs' cells' slots' → W p l e R s m args below meth c H' locs' cells' slots' Q (F0 m pc' ls (S'.map (ab_v B od)))) :
    W p l e R s m args below meth c H locs cells slots Q (F0 m pc ls (S.map (ab_v B od))) := by
  have hod : ∀ w, ((oo w).isSome = true ∨ (oa w).isSome = true) → od w < B := fun w hk => by
    rcases hk with hk | hk
    · obtain ⟨⟨ci, fs⟩, hz⟩ := Option.isSome_iff_exists.mp hk
      obtain ⟨r, -, hO, -⟩ := hOO w ci fs hz
      obtain ⟨cell, -, -, -, hn⟩ := hO
      exact Nat.not_le.mp hn
    · obtain ⟨⟨t, n, f⟩, hz⟩ := Option.isSome_iff_exists.mp hk
      exact (hOA w t n f hz).1
  rcases hlen with hlen | hlen
  · cases i
    all_goals first | (simp only [ab_s4] at hs; cases hs; done) | (revert hlen; simp [ab_len]; done)
  subst hlen
  cases i
  case if_acmp cd off =>
    have htg := htg0 _ rfl
    cases cd
    case eq =>
      simp only [ab_s4] at hs
      split at hs
      · rename_i b a r
        split at hs
        · rename_i t ht
          cases hs
          obtain ⟨e1, e2, e3⟩ := ab_acmp_ok hod hinj ht
          have kk := k _ _ _ _ hR
          have hgl : W p l e R s m args below meth c H locs cells slots Q (F0 m pc ls (va_rf (ab_qa B od b) :: va_rf (ab_qa B od a) :: S'.map (ab_v B od))) :=
            lv_acmp_eq hx hb hdg htg (fun hc => by rw [if_pos (e3.mp hc)] at kk; exact kk) (fun hc => by rw [if_neg (fun z => hc (e3.mpr z))] at kk; exact kk)
          rw [← e1, ← e2] at hgl
          exact hgl
        · cases hs
      · cases hs
    case ne =>
      simp only [ab_s4] at hs
      split at hs
      · rename_i b a r
        split at hs
        · rename_i t ht
          cases hs
          obtain ⟨e1, e2, e3⟩ := ab_acmp_ok hod hinj ht
          have kk := k _ _ _ _ hR
          have hgl : W p l e R s m args below meth c H locs cells slots Q (F0 m pc ls (va_rf (ab_qa B od b) :: va_rf (ab_qa B od a) :: S'.map (ab_v B od))) :=
            lv_acmp_ne hx hb hdg htg (fun hc => by rw [if_neg (fun z => hc (e3.mpr z))] at kk; exact kk) (fun hc => by rw [if_pos (e3.mp hc)] at kk; exact kk)
          rw [← e1, ← e2] at hgl
          exact hgl
        · cases hs
      · cases hs
  case getstatic x =>
    simp only [ab_s4] at hs
    split at hs
    · rename_i _ _ v hp
      cases hs
      obtain ⟨C, n, d, hZ, hl⟩ := hSZ _ _ _ _ hp
      exact va_gets hx hb hZ hR.2.2.1 hown (va_Nw.use rfl (hTs _ hl)) (fun z hz => hz) hdg (k _ _ _ _ hR)
    · cases hs
  case getfield x =>
    simp only [ab_s4] at hs
    split at hs
    · rename_i a b fl w r hp
      split at hs
      · rename_i ci fs hw
        split at hs
        · rename_i hc
          subst hc
          split at hs
          · rename_i v hv
            cases hs
            obtain ⟨r1, hr1, -, hfl⟩ := hOO _ _ _ hw
            obtain ⟨hbb, hOF⟩ := hfl _ _ hv
            obtain ⟨r2, ref, hr2, hb2, hl2, hs2, -⟩ := hPL _ _ hp
            cases hr1.symm.trans hr2
            exact vk_getf hx hb hOF hR.2.2.1 hown (va_Nw.use rfl (hTs _ hl2)) (ab_same hTs hs2) hdg (k _ _ _ _ hR)
          · cases hs
        · cases hs
      · cases hs
    · cases hs
  case checkcast x =>
    simp only [ab_s4] at hs
    split at hs
    · rename_i r
      cases hs
      exact lv_castN hx hb hdg (k _ _ _ _ hR)
    · rename_i j r
      split at hs
      · rename_i ci _ _ cj fs hp hj
        split at hs
        · rename_i hc
          subst hc
          cases hs
          obtain ⟨r1, hr1, hl1⟩ := hP4 _ _ hp
          obtain ⟨r2, hr2, cell, q1, q2, q3, q4⟩ := hR.1 j _ hj
          cases hr1.symm.trans hr2
          exact va_castS hx hb hown (va_Nw.use rfl (hTs _ hl1)) (hKC ci r1 hr1).1.2 ⟨cell, q1, by rw [q3]; rfl, by rw [q2]; exact (hKC ci r1 hr1).1.2.1⟩ hdg (k _ _ _ _ hR)
        · cases hs
      · rename_i t _ _ u n f hp hj
        split at hs
        · rename_i hc
          subst hc
          cases hs
          obtain ⟨C, ht, hl1⟩ := hP4 _ _ hp
          obtain ⟨hA1, hA2, -⟩ := hKA t _ ht
          obtain ⟨kA, comp, k1, k2, k3, k4⟩ := hA2
          have q1 : H[B + j]? = some (arrV (dA t) n (fun q => ab_v B od (f q))) := hR.1 j _ hj
          intro T hT X
          obtain ⟨vm', X', st⟩ := X.checkcastYes hx hown (va_Nw.use rfl (hTs _ hl1)) (by rw [hT]; exact q1) rfl k4 (va_asg _ _) (g := F0 m pc ls (List.map (ab_v B od) (Value.ref j :: r))) rfl rfl (by rw [hb]; exact hdg)
          obtain ⟨t', a1, b1⟩ := (k _ _ _ _ hR) (T.setVm vm') hT X'
          exact ⟨t', st t' a1, b1⟩
        · cases hs
      · cases hs
    · cases hs
  case anewarray x =>
    simp only [ab_s4] at hs
    split at hs
    · rename_i y r t _ _ hp
      split at hs
      · rename_i hc
        obtain ⟨hn, hbig, hc1, hc2⟩ := hc
        cases hs
        obtain ⟨C, ht, hl1⟩ := hP4 _ _ hp
        obtain ⟨hA1, hA2, -⟩ := hKA t _ ht
        obtain ⟨kA, comp, k1, k2, k3, k4⟩ := hA2
        have q4 := hR.2.2.2.1
        have q5 := hR.2.2.2.2.1
        refine W.anew hx hb hown (va_Nw.use rfl (hTs _ hl1)) (va_AO.use (hAO t C ht)) rfl hdg rfl hn (by omega) (by omega) (by omega) fun cA kA2 comp2 f1 f2 f3 f4 => ?_
        have hcA : cA = dA t := Option.some.inj (f1.symm.trans k4)
        subst hcA
        generalize hH1 : H.push ({ cls := dA t, slots := Array.replicate y.toNatClampNeg .null, vm := .none } : Cell) = H1
        have z1 : H1.size = H.size + 1 := by rw [← hH1, Array.size_push]
        have e1 : H1[H.size]? = some (arrV (dA t) y.toNatClampNeg (fun _ => .null)) := by rw [← hH1, Array.getElem?_push_size, ← arrV_new]
        have o1 : ∀ q : Nat, q < H.size → H1[q]? = H[q]? := fun q hq => by rw [← hH1, Array.getElem?_push, if_neg (Nat.ne_of_lt hq)]
        have hR2 := hR.push (x := .inl (t, y.toNatClampNeg, fun _ => .null)) (n := y.toNatClampNeg) (H1 := H1) rfl hc1 hc2 (by show H1[B + h.length]? = some (arrV (dA t) y.toNatClampNeg (fun _ => .null)); rw [← hR.2.1]; exact e1) z1 o1
        have kk := k _ _ _ _ hR2
        rw [hR.2.1]
        exact kk
      · cases hs
    · cases hs
  case aastore =>
    simp only [ab_s4] at hs
    split at hs
    · rename_i v x j r
      split at hs
      · rename_i ci fs t n f hv hj
        split at hs
        · rename_i hc
          obtain ⟨hc1, hc2⟩ := hc
          cases hs
          obtain ⟨r2, hr2, cell, q1, q2, q3, q4⟩ := hR.1 v _ hv
          exact ab_aast hx hb hTs hKC hKA hsb hR (v := .ref v) rfl ⟨cell, q1, by rw [q3]; rfl, fun r hr => by cases hr.symm.trans hr2; rw [q2]; exact (hKC ci _ hr2).1.2.1⟩ hj hc1 hc2 hdg (fun H1 locs1 hR1 => k _ _ _ _ hR1)
        · cases hs
      · cases hs
    · rename_i w x j r
      split at hs
      · rename_i ci fs t n f hw hj
        split at hs
        · rename_i hc
          obtain ⟨hc1, hc2⟩ := hc
          cases hs
          obtain ⟨r1, hr1, hO, -⟩ := hOO _ _ _ hw
          obtain ⟨cell, o1, o2, o3, -⟩ := hO.kept hR.2.2.1.2.1
          exact ab_aast hx hb hTs hKC hKA hsb hR (v := .float w) rfl ⟨cell, o1, o2, fun r hr => by cases hr.symm.trans hr1; exact o3⟩ hj hc1 hc2 hdg (fun H1 locs1 hR1 => k _ _ _ _ hR1)
        · cases hs
      · cases hs
    · rename_i x j r
      split at hs
      · rename_i t n f hj
        split at hs
        · rename_i hc
          cases hs
          obtain ⟨C, ht⟩ : ∃ C, aty[t]? = some (.object C) := by
            cases ha : aty[t]? with
            | none => rw [ha] at hc; simp at hc
            | some ty =>
              rw [ha] at hc
              cases ty <;> first | exact ⟨_, rfl⟩ | (simp [ab_isR] at hc)
          have hin := ab_ix_in hc.2
          exact va_WaastN (C := C) hx hb (hR.1 j _ hj) ((hKA t _ ht).1 n _) (fun h => by cases h) (by rw [arrV_size]; exact hin) rfl rfl hdg fun H1 e1 e2 e3 => k _ _ _ _ (ab_ast hR hj (v := .null) e1 e2 e3)
        · cases hs
      · cases hs
    · cases hs
  all_goals (simp only [ab_s4] at hs; cases hs)
end AB4
end
section
/-! System.arraycopy between two new rows of one kind -/
/-- a row of this kind may take this value -/
def ab_el (t : Nat) (ty : FieldType) (sb : List (Nat × Nat)) (oo : Nat → Option (Nat × List Value)) (h : ab_H) (v : Value) : Bool := match ty, v with
  | .byte, .int x => fits .byte (.int x)
  | .object _, .null => true
  | .object _, .ref q => (match h[q]? with
    | some (.inr (ci, _)) => sb.contains (t, ci)
    | _ => false)
  | .object _, .float w => (match oo w.toNat with
    | some (ci, _) => sb.contains (t, ci)
    | none => false)
  | _, _ => false
def ab_cpok (aty : List FieldType) (sb : List (Nat × Nat)) (oo : Nat → Option (Nat × List Value)) (h : ab_H) (t n0 n1 : Nat) (f : Nat → Value) (sp dp n : Int32) : Prop :=
  ¬ sp < 0 ∧ ¬ dp < 0 ∧ ¬ n < 0 ∧ sp.toNatClampNeg + n.toNatClampNeg ≤ n0 ∧ dp.toNatClampNeg + n.toNatClampNeg ≤ n1 ∧ ∃ ty, aty[t]? = some ty ∧ ∀ i, i < n.toNatClampNeg → ab_el t ty sb oo h (f (sp.toNatClampNeg + i)) = true
section AB8
variable {p : Program} {l : Launch} {e : Env} {R : Room} {s : State} {m : MethodId} {args : Array Value} {below : List Frame} {meth : Method} {c : Code} {H : Heap} {locs : List Loc} {cells slots : Nat} {Q : State → Prop}
variable {cc : ByteArray} {pc B n0 z0 NC NS : Nat} {od : Nat → Nat} {h : ab_H} {ls : Array Slot} {own : String}
variable {D : va_G} {dA : Nat → ClassId} {cl : List vw_C} {aty : List FieldType} {sb : List (Nat × Nat)} {oo : Nat → Option (Nat × List Value)} {Ts : List Cond}
/-- an object of class ci, in the heap, may lie in a row of kind t -/
theorem ab_takes (hTs : ∀ w ∈ Ts, va_Nw w s) (hKC : ab_KC D cl s) (hKA : ab_KA dA aty s) (hsb : ∀ t ci, (t, ci) ∈ sb → ∃ (E : String) (r : vw_C), aty[t]? = some (.object E) ∧ cl[ci]? = some r ∧ (r.1 = E ∨ Cond.castable r.1 E ∈ Ts)) {t ci : Nat} (hin : (t, ci) ∈ sb) {cellV : Cell} (g3 : ∀ r : vw_C, cl[ci]? = some r → s.vm.findClass r.1 = some cellV.cls) {kA : Class} {comp : ClassId} {ty : FieldType} (k1 : s.vm.classes[dA t]? = some kA) (k2 : kA.kind = .array comp ty) :
    (∃ kC, s.vm.classes[cellV.cls]? = some kC) ∧ (∃ kE, s.vm.classes[comp]? = some kE) ∧ s.vm.assignable cellV.cls comp = true := by
  obtain ⟨E, r1, ht, hr1, hw⟩ := hsb t ci hin
  obtain ⟨hA1, hA2, -⟩ := hKA t _ ht
  obtain ⟨kA', comp', k1', k2', k3, -⟩ := hA2
  cases k1.symm.trans k1'
  cases k2.symm.trans k2'
  obtain ⟨kE, hkE, -⟩ := Vm.findClass_spec k3
  have g3 := g3 r1 hr1
  have f3 : s.vm.assignable cellV.cls comp = true := by
    rcases hw with rfl | hw
    · cases g3.symm.trans k3
      have hca := (hKC ci r1 hr1).1.2
      have he := Option.some.inj (hca.1.symm.trans g3)
      have h1 := va_assign hca
      rw [he] at h1
      exact h1
    · obtain ⟨c0, t1, f1, f2, f3⟩ := Cond.castable_spec (hTs _ hw)
      cases g3.symm.trans f1
      cases k3.symm.trans f2
      exact f3
  obtain ⟨kC, hkC, -⟩ := Vm.findClass_spec g3
  exact ⟨⟨kC, hkC⟩, ⟨kE, hkE⟩, f3⟩
set_option maxHeartbeats 4000000 in
theorem ab_copy (hx : p.tables.exec = Jvm.exec) (hb : c.code = cc) (hml : c.maxLocals = ls.size) (hown : s.vm.findClass own = some m.cls) {index : Nat} (hlink : (Cond.methodLink own index arraycopyName).before args s = true) (hnat : (Cond.native arraycopyName).before args s = true) (hstat : (Cond.static arraycopyName).before args s = true) (hini : (Cond.initialized "java/lang/System").before args s = true)
    (hTs : ∀ w ∈ Ts, va_Nw w s) (hKC : ab_KC D cl s) (hKA : ab_KA dA aty s) (hOO : ab_OO B od cl oo s s.heap) (hsb : ∀ t ci, (t, ci) ∈ sb → ∃ (E : String) (r : vw_C), aty[t]? = some (.object E) ∧ cl[ci]? = some r ∧ (r.1 = E ∨ Cond.castable r.1 E ∈ Ts)) (hR : ab_R B od D dA cl NC NS s.heap n0 z0 h H locs cells slots)
    {t N0 N1 j0 j1 : Nat} {f g : Nat → Value} {sp dp n : Int32} {r : List Value} (h0 : h[j0]? = some (.inl (t, N0, f))) (h1 : h[j1]? = some (.inl (t, N1, g))) (hok : ab_cpok aty sb oo h t N0 N1 f sp dp n)
    (hframes : 1 ≤ R.frames) (hlocals : (r.map fun v => v.category).sum + (nativeFrameWords "java/lang/System" "arraycopy" 5 + 11) ≤ R.locals) (hdg : decode cc pc = .ok (.invokestatic index, 3))
    (k : ∀ (H1 : Heap) (locs1 : List Loc), ab_R B od D dA cl NC NS s.heap n0 z0 (h.set j1 (.inl (t, N1, va_cpy f g sp.toNatClampNeg dp.toNatClampNeg n.toNatClampNeg))) H1 locs1 cells slots → W p l e R s m args below meth c H1 locs1 cells slots Q (F0 m (pc + 3) ls r)) :
    W p l e R s m args below meth c H locs cells slots Q (F0 m pc ls (.int n :: .int dp :: .ref (B + j1) :: .int sp :: .ref (B + j0) :: r)) := by
  have nn : ∀ z : Int32, ¬ z < 0 → z.toInt = (z.toNatClampNeg : Int) := by
    intro z hz
    have hz0 : (0 : Int) ≤ z.toInt := by
      have := Int32.not_lt.mp hz
      simpa using Int32.le_iff_toInt_le.mp this
    show z.toInt = ((z.toInt.toNat : Nat) : Int)
    omega
  obtain ⟨g1, g2, g3, g4, g5, ty, hty, hel⟩ := hok
  intro T hT X
  have hc0 : H[B + j0]? = some (arrV (dA t) N0 (fun q => ab_v B od (f q))) := hR.1 j0 _ h0
  have hc1 : H[B + j1]? = some (arrV (dA t) N1 (fun q => ab_v B od (g q))) := hR.1 j1 _ h1
  obtain ⟨-, k0, hk0, cm0, hkk0⟩ := (hKA t ty hty).1 N0 (fun q => ab_v B od (f q))
  obtain ⟨vm', X', step⟩ := X.arraycopy hx hown hlink hnat hstat hini (src := B + j0) (dst := B + j1) (cs := arrV (dA t) N0 (fun q => ab_v B od (f q))) (cd := arrV (dA t) N1 (fun q => ab_v B od (g q))) (srcPos := sp) (destPos := dp) (n := n) (by rw [hT]; exact hc0) (by rw [hT]; exact hc1)
    (fun _ h => by cases h) (fun _ h => by cases h) (fun h => by cases h) (fun h => by cases h) hk0 hk0 hkk0 hkk0 (by simp) g1 g2 g3
    (by rw [nn sp g1, nn n g3, arrV_size]; omega)
    (by rw [nn dp g2, nn n g3, arrV_size]; omega)
    (fun vm₁ hal i hi => by
      have e : (arrV (dA t) N0 (fun q => ab_v B od (f q))).slots.getD (sp.toNatClampNeg + i) .null = ab_v B od (f (sp.toNatClampNeg + i)) := by
        rw [Array.getD_eq_getD_getElem?, arrV_read _ _ (by omega)]
        rfl
      rw [e]
      have hv := hel i hi
      generalize f (sp.toNatClampNeg + i) = v at hv
      unfold ab_el at hv
      split at hv
      · exact ⟨hv, trivial⟩
      · exact ⟨rfl, trivial⟩
      · rename_i C q
        split at hv
        · rename_i ci fs hq
          obtain ⟨r2, hr2, cell, q1, q2, q3, q4⟩ := hR.1 q _ hq
          obtain ⟨⟨kC, hkC⟩, ⟨kE, hkE⟩, ha⟩ := ab_takes hTs hKC hKA hsb (List.contains_iff_mem.mp hv) (cellV := cell) (fun r hr => by cases hr.symm.trans hr2; rw [q2]; exact (hKC ci _ hr2).1.2.1) hk0 hkk0
          obtain ⟨kC', hkC', -⟩ := hal.2.2 _ _ hkC
          obtain ⟨kE', hkE', -⟩ := hal.2.2 _ _ hkE
          refine ⟨rfl, cell, (show T.heap[B + q]? = some cell by rw [hT]; exact q1), (fun z hz => by rw [q3] at hz; cases hz), ⟨kC', hkC'⟩, ⟨kE', hkE'⟩, ?_⟩
          show vm₁.assignable _ _ = true
          rw [hal.assignable]
          exact ha
        · cases hv
      · rename_i C w
        split at hv
        · rename_i ci fs hw
          obtain ⟨r1, hr1, hO, -⟩ := hOO _ _ _ hw
          obtain ⟨cell, o1, o2, o3, -⟩ := hO.kept hR.2.2.1.2.1
          obtain ⟨⟨kC, hkC⟩, ⟨kE, hkE⟩, ha⟩ := ab_takes hTs hKC hKA hsb (List.contains_iff_mem.mp hv) (cellV := cell) (fun r hr => by cases hr.symm.trans hr1; exact o3) hk0 hkk0
          obtain ⟨kC', hkC', -⟩ := hal.2.2 _ _ hkC
          obtain ⟨kE', hkE', -⟩ := hal.2.2 _ _ hkE
          refine ⟨rfl, cell, (show T.heap[od w.toNat]? = some cell by rw [hT]; exact o1), (fun z hz => by rw [hz] at o2; cases o2), ⟨kC', hkC'⟩, ⟨kE', hkE'⟩, ?_⟩
          show vm₁.assignable _ _ = true
          rw [hal.assignable]
          exact ha
        · cases hv
      · cases hv)
    (g := F0 m pc ls (.int n :: .int dp :: .ref (B + j1) :: .int sp :: .ref (B + j0) :: r)) rfl (by rw [hml]) (rest := r) rfl (by rw [hb]; exact hdg) hframes (by show 2 * 0 + _ + _ ≤ _; omega)
  have e1 : copied (arrV (dA t) N0 (fun q => ab_v B od (f q))) (arrV (dA t) N1 (fun q => ab_v B od (g q))) sp dp n = arrV (dA t) N1 (fun q => ab_v B od (va_cpy f g sp.toNatClampNeg dp.toNatClampNeg n.toNatClampNeg q)) := va_copied (ab_v B od) (dA t) (dA t) f g g4
  rw [e1] at X' step
  have hl : B + j1 < H.size := (Array.getElem?_eq_some_iff.mp hc1).1
  generalize hH1 : H.setIfInBounds (B + j1) (arrV (dA t) N1 (fun q => ab_v B od (va_cpy f g sp.toNatClampNeg dp.toNatClampNeg n.toNatClampNeg q))) = H1
  have hheap : ((T.setVm vm').setCell (B + j1) (arrV (dA t) N1 (fun q => ab_v B od (va_cpy f g sp.toNatClampNeg dp.toNatClampNeg n.toNatClampNeg q)))).heap = H1 := by rw [← hH1, ← hT]; rfl
  have oq : ∀ q : Nat, q ≠ B + j1 → H1[q]? = H[q]? := fun q hq => by rw [← hH1]; simp [Array.getElem?_setIfInBounds, Ne.symm hq]
  have hself : H1[B + j1]? = some (arrV (dA t) N1 (fun q => ab_v B od (va_cpy f g sp.toNatClampNeg dp.toNatClampNeg n.toNatClampNeg q))) := by rw [← hH1]; simp [Array.getElem?_setIfInBounds, hl]
  have hsz : H1.size = H.size := by rw [← hH1]; simp
  have hR1 : ab_R B od D dA cl NC NS s.heap n0 z0 (h.set j1 (.inl (t, N1, va_cpy f g sp.toNatClampNeg dp.toNatClampNeg n.toNatClampNeg))) H1 (locs ++ ((arrV (dA t) N0 (fun q => ab_v B od (f q))).stretch sp.toNatClampNeg n.toNatClampNeg).zipIdx.map fun q => ⟨B + j1, dp.toNatClampNeg + q.2⟩) cells slots := by
    obtain ⟨w1, w2, w3, w4⟩ := hR.set (i := 0) (x := .inl (t, N1, va_cpy f g sp.toNatClampNeg dp.toNatClampNeg n.toNatClampNeg)) h1 rfl hself hsz oq
    refine ⟨w1, w2, ⟨w3.1, w3.2.1, fun q hq => ?_⟩, w4⟩
    rcases List.mem_append.mp hq with z | z
    · exact hR.2.2.1.2.2 q z
    · obtain ⟨y, -, hy⟩ := List.mem_map.mp z
      rw [← hy]
      exact Nat.le_add_right _ _
  obtain ⟨t', a1, b1⟩ := k H1 _ hR1 _ hheap X'
  exact ⟨t', step t' a1, b1⟩
end AB8
end
section
def ab_wt (S : List Value) : Nat := (S.map fun v => v.category).sum
/-! more instructions: instanceof, casts of old objects, class constants, getClass of a row, System.arraycopy -/
/-- the copy may be made: all of ab_cpok, computed -/
def ab_cpb (aty : List FieldType) (sb : List (Nat × Nat)) (oo : Nat → Option (Nat × List Value)) (h : ab_H) (t n0 n1 : Nat) (f : Nat → Value) (sp dp n : Int32) : Bool := match aty[t]? with
  | some ty => !(decide (sp < 0)) && !(decide (dp < 0)) && !(decide (n < 0)) && decide (sp.toNatClampNeg + n.toNatClampNeg ≤ n0) && decide (dp.toNatClampNeg + n.toNatClampNeg ≤ n1) && (List.range n.toNatClampNeg).all (fun i => ab_el t ty sb oo h (f (sp.toNatClampNeg + i)))
  | none => false
theorem ab_cpb_ok {aty : List FieldType} {sb : List (Nat × Nat)} {oo : Nat → Option (Nat × List Value)} {h : ab_H} {t n0 n1 : Nat} {f : Nat → Value} {sp dp n : Int32} (hb : ab_cpb aty sb oo h t n0 n1 f sp dp n = true) : ab_cpok aty sb oo h t n0 n1 f sp dp n := by
  unfold ab_cpb at hb
  split at hb
  · rename_i ty hty
    simp only [Bool.and_eq_true, Bool.not_eq_true', decide_eq_false_iff_not, decide_eq_true_eq, List.all_eq_true, List.mem_range] at hb
    obtain ⟨⟨⟨⟨⟨b1, b2⟩, b3⟩, b4⟩, b5⟩, b6⟩ := hb
    exact ⟨b1, b2, b3, b4, b5, ty, hty, b6⟩
  · cases hb
/-- entries of a pool: 12 a class (number in cl); 15 a class as a constant; 16 getClass (kind of row, the class's object); 18 System.arraycopy; 19 clone of a row of bytes; 24 the class of rows of bytes -/
def ab_s5 (aty : List FieldType) (sb : List (Nat × Nat)) (oo : Nat → Option (Nat × List Value)) (NC NS : Nat) (pl : Nat → Option ab_N) (i : Instr) (pc : Nat) (S : List Value) (h : ab_H) : Option (Nat × List Value × ab_H) := match i with
  | .instanceof x => (match pl x, S with
    | some (12, ci, _, _), .ref j :: r => (match h[j]? with
      | some (.inr (cj, _)) => if ci = cj then some (pc + 3, .int 1 :: r, h) else none
      | _ => none)
    | some (12, ci, _, _), .float w :: r => (match oo w.toNat with
      | some (cj, _) => if ci = cj then some (pc + 3, .int 1 :: r, h) else none
      | _ => none)
    | _, _ => none)
  | .checkcast x => (match pl x, S with
    | some (12, ci, _, _), .float w :: r => (match oo w.toNat with
      | some (cj, _) => if ci = cj then some (pc + 3, .float w :: r, h) else none
      | _ => none)
    | some (24, _, _, _), .ref j :: r => (match h[j]? with
      | some (.inl (u, _, _)) => if aty[u]? = some .byte then some (pc + 3, .ref j :: r, h) else none
      | _ => none)
    | _, _ => none)
  | .ldc x => (match pl x with
    | some (15, _, _, .float w) => some (pc + 2, .float w :: S, h)
    | _ => none)
  | .invokevirtual x => (match pl x, S with
    | some (16, t, _, .float w), .ref j :: r => (match h[j]? with
      | some (.inl (u, _, _)) => if t = u ∧ ab_wt r ≤ 20 then some (pc + 3, .float w :: r, h) else none
      | _ => none)
    | some (19, _, _, _), .ref j :: r => (match h[j]? with
      | some (.inl (u, n, f)) => if aty[u]? = some .byte ∧ ab_wt r ≤ 20 ∧ h.length + 1 ≤ NC ∧ ab_sz h + n ≤ NS ∧ (List.range n).all (fun i => ab_el u .byte sb oo h (f i)) = true then some (pc + 3, .ref h.length :: r, h ++ [.inl (u, n, f)]) else none
      | _ => none)
    | _, _ => none)
  | .invokestatic x => (match pl x, S with
    | some (18, _, _, _), .int n :: .int dp :: .ref j1 :: .int sp :: .ref j0 :: r => (match h[j0]?, h[j1]? with
      | some (.inl (t, n0, f)), some (.inl (u, n1, g)) => if t = u ∧ ab_wt r ≤ 20 ∧ ab_cpb aty sb oo h t n0 n1 f sp dp n = true then some (pc + 3, r, h.set j1 (.inl (u, n1, va_cpy f g sp.toNatClampNeg dp.toNatClampNeg n.toNatClampNeg))) else none
      | _, _ => none)
    | _, _ => none)
  | _ => none
abbrev ab_gc : MethodName := ⟨"java/lang/Object", "getClass", "()Ljava/lang/Class;"⟩
/-- what the words Ts say of such an entry -/
def ab_q5 (aty : List FieldType) (Ts : List Cond) (own : String) (x : Nat) (n : ab_N) : Prop := match n with
  | (16, t, _, _) => ∃ C : String, aty[t]? = some (.object C) ∧ Cond.methodLink own x ab_gc ∈ Ts ∧ Cond.selects ("[" ++ (FieldType.object C).toString) ab_gc ab_gc ∈ Ts ∧ Cond.instanceMethod ab_gc ∈ Ts ∧ Cond.native ab_gc ∈ Ts
  | (19, _, _, _) => Cond.methodLink own x ⟨"[B", "clone", "()Ljava/lang/Object;"⟩ ∈ Ts ∧ Cond.sameMethod "[B" "java/lang/Object" "clone" "()Ljava/lang/Object;" ∈ Ts ∧ Cond.native ⟨"java/lang/Object", "clone", "()Ljava/lang/Object;"⟩ ∈ Ts ∧ Cond.instanceMethod ⟨"java/lang/Object", "clone", "()Ljava/lang/Object;"⟩ ∈ Ts ∧ Cond.selects "[B" ⟨"[B", "clone", "()Ljava/lang/Object;"⟩ ⟨"java/lang/Object", "clone", "()Ljava/lang/Object;"⟩ ∈ Ts ∧ Cond.castable "[B" "java/lang/Cloneable" ∈ Ts
  | (24, _, _, _) => Cond.classLink own x "[B" ∈ Ts
  | (18, _, _, _) => Cond.methodLink own x arraycopyName ∈ Ts ∧ Cond.native arraycopyName ∈ Ts ∧ Cond.static arraycopyName ∈ Ts ∧ Cond.initialized "java/lang/System" ∈ Ts
  | _ => True
/-- the classes' objects -/
def ab_MI (od : Nat → Nat) (aty : List FieldType) (Ts : List Cond) (own : String) (pl : Nat → Option ab_N) (s : State) : Prop :=
  (∀ (x a b : Nat) (w : UInt32), pl x = some (15, a, b, .float w) → ∃ C : String, va_Mi C (od w.toNat) s ∧ Cond.classLink own x C ∈ Ts) ∧
  ∀ (x t b : Nat) (w : UInt32) (C : String), pl x = some (16, t, b, .float w) → aty[t]? = some (.object C) → va_Mi ("[" ++ (FieldType.object C).toString) (od w.toNat) s ∧ va_Dc s
theorem ab_MI.moved {od : Nat → Nat} {aty : List FieldType} {Ts : List Cond} {own : String} {pl : Nat → Option ab_N} {s U : State} (hvm : s.vm.Alike U.vm) (h : ab_MI od aty Ts own pl s) : ab_MI od aty Ts own pl U :=
  ⟨fun x a b w hp => by obtain ⟨C, h1, h2⟩ := h.1 x a b w hp; exact ⟨C, h1.moved hvm, h2⟩, fun x t b w C hp ht => ⟨(h.2 x t b w C hp ht).1.moved hvm, (h.2 x t b w C hp ht).2.moved hvm⟩⟩
section AB10
variable {p : Program} {l : Launch} {e : Env} {R : Room} {s : State} {m : MethodId} {args : Array Value} {below : List Frame} {meth : Method} {c : Code} {H : Heap} {locs : List Loc} {cells slots : Nat} {Q : State → Prop}
variable {cc : ByteArray} {pc pc' tg nL len B n0 z0 NC NS : Nat} {od : Nat → Nat} {S S' : List Value} {h h' : ab_H} {i : Instr} {ls : Array Slot} {own : String}
variable {D : va_G} {dA : Nat → ClassId} {cl : List vw_C} {aty : List FieldType} {sb : List (Nat × Nat)} {oo : Nat → Option (Nat × List Value)} {pl : Nat → Option ab_N} {Ts : List Cond}
set_option maxHeartbeats 8000000 in
theorem ab_s5_ok (hx : p.tables.exec = Jvm.exec) (hb : c.code = cc) (hml : c.maxLocals = ls.size) (hown : s.vm.findClass own = some m.cls) (hTs : ∀ w ∈ Ts, va_Nw w s) (hKC : ab_KC D cl s) (hKA : ab_KA dA aty s) (hOO : ab_OO B od cl oo s s.heap) (hMI : ab_MI od aty Ts own pl s)
    (hsb : ∀ t ci, (t, ci) ∈ sb → ∃ (E : String) (r : vw_C), aty[t]? = some (.object E) ∧ cl[ci]? = some r ∧ (r.1 = E ∨ Cond.castable r.1 E ∈ Ts)) (hP4 : ∀ x n, pl x = some n → ab_p4 cl aty Ts own x n) (hQ5 : ∀ x n, pl x = some n → ab_q5 aty Ts own x n) (hfr : 1 ≤ R.frames) (hlo : 100 ≤ R.locals) (hNC : NC ≤ n0 + R.cells) (hNS : NS ≤ z0 + R.slots)
    (hdg : decode cc pc = .ok (i, len)) (hlen : ab_len i = 0 ∨ len = ab_len i) (hs : ab_s5 aty sb oo NC NS pl i pc S h = some (pc', S', h')) (hR : ab_R B od D dA cl NC NS s.heap n0 z0 h H locs cells slots)
    (k : ∀ (H' : Heap) (locs' : List Loc) (cells' slots' : Nat), ab_R B od D dA cl NC NS s.heap n0 z0 h' H' locs' cells' slots' → W p l e R s m args below meth c H' locs' cells' slots' Q (F0 m pc' ls (S'.map (ab_v B od)))) :
    W p l e R s m args below meth c H locs cells slots Q (F0 m pc ls (S.map (ab_v B od))) := by
  have hwt : ∀ r : List Value, ((r.map (ab_v B od)).map fun v => v.category).sum = ab_wt r := fun r => by
    unfold ab_wt
    rw [List.map_map]
    congr 1
    apply List.map_congr_left
    intro v _
    exact ab_v_cat B od v
  have hnw : nativeFrameWords "java/lang/System" "arraycopy" 5 ≤ 60 := by decide
  rcases hlen with hlen | hlen
  · cases i
    all_goals first | (simp only [ab_s5] at hs; cases hs; done) | (revert hlen; simp [ab_len]; done)
  subst hlen
  cases i
  case instanceof x =>
    simp only [ab_s5] at hs
    split at hs
    · rename_i ci _ _ j r hp
      split at hs
      · rename_i cj fs hj
        split at hs
        · rename_i hc
          subst hc
          cases hs
          obtain ⟨r1, hr1, hl1⟩ := hP4 _ _ hp
          obtain ⟨r2, hr2, cell, q1, q2, q3, q4⟩ := hR.1 j _ hj
          have er : r1 = r2 := Option.some.inj (hr1.symm.trans hr2)
          subst er
          exact va_instS hx hb hown (va_Nw.use rfl (hTs _ hl1)) (hKC ci r1 hr1).1.2 ⟨cell, q1, by rw [q3]; rfl, by rw [q2]; exact (hKC ci r1 hr1).1.2.1⟩ hdg (k _ _ _ _ hR)
        · cases hs
      · cases hs
    · rename_i ci _ _ w r hp
      split at hs
      · rename_i cj fs hw
        split at hs
        · rename_i hc
          subst hc
          cases hs
          obtain ⟨r1, hr1, hl1⟩ := hP4 _ _ hp
          obtain ⟨r2, hr2, hO, -⟩ := hOO _ _ _ hw
          have er : r1 = r2 := Option.some.inj (hr1.symm.trans hr2)
          subst er
          obtain ⟨cell, o1, o2, o3, -⟩ := hO.kept hR.2.2.1.2.1
          exact va_instS hx hb hown (va_Nw.use rfl (hTs _ hl1)) (hKC ci r1 hr1).1.2 ⟨cell, o1, o2, o3⟩ hdg (k _ _ _ _ hR)
        · cases hs
      · cases hs
    · cases hs
  case checkcast x =>
    simp only [ab_s5] at hs
    split at hs
    · rename_i ci _ _ w r hp
      split at hs
      · rename_i cj fs hw
        split at hs
        · rename_i hc
          subst hc
          cases hs
          obtain ⟨r1, hr1, hl1⟩ := hP4 _ _ hp
          obtain ⟨r2, hr2, hO, -⟩ := hOO _ _ _ hw
          have er : r1 = r2 := Option.some.inj (hr1.symm.trans hr2)
          subst er
          obtain ⟨cell, o1, o2, o3, -⟩ := hO.kept hR.2.2.1.2.1
          exact va_castS hx hb hown (va_Nw.use rfl (hTs _ hl1)) (hKC ci r1 hr1).1.2 ⟨cell, o1, o2, o3⟩ hdg (k _ _ _ _ hR)
        · cases hs
      · cases hs
    · rename_i j r hp
      split at hs
      · rename_i u n f hj
        split at hs
        · rename_i hc
          cases hs
          have hl1 := hQ5 _ _ hp
          obtain ⟨hA1, hA2, -⟩ := hKA u _ hc
          have q1 : H[B + j]? = some (arrV (dA u) n (fun q => ab_v B od (f q))) := hR.1 j _ hj
          intro T hT X
          obtain ⟨vm', X', st⟩ := X.checkcastYes hx hown (va_Nw.use rfl (hTs _ hl1)) (by rw [hT]; exact q1) rfl (show s.vm.findClass "[B" = some (dA u) from hA2) (va_asg _ _) (g := F0 m pc ls (List.map (ab_v B od) (Value.ref j :: r))) rfl rfl (by rw [hb]; exact hdg)
          obtain ⟨t', a1, b1⟩ := (k _ _ _ _ hR) (T.setVm vm') hT X'
          exact ⟨t', st t' a1, b1⟩
        · cases hs
      · cases hs
    · cases hs
  case ldc x =>
    simp only [ab_s5] at hs
    split at hs
    · rename_i _ _ w hp
      cases hs
      obtain ⟨C, hM, hl⟩ := hMI.1 _ _ _ _ hp
      exact va_ldcM hx hb hown (va_Nw.use rfl (hTs _ hl)) hM hdg (k _ _ _ _ hR)
    · cases hs
  case invokevirtual x =>
    simp only [ab_s5] at hs
    split at hs
    · rename_i t _ w j r hp
      split at hs
      · rename_i u n f hj
        split at hs
        · rename_i hc
          obtain ⟨rfl, hc2⟩ := hc
          cases hs
          obtain ⟨C, ht, l1, l2, l3, l4⟩ := hQ5 _ _ hp
          obtain ⟨hM, hDc⟩ := hMI.2 _ _ _ _ C hp ht
          obtain ⟨hA1, hA2, -⟩ := hKA t _ ht
          obtain ⟨kA, comp, k1, k2, k3, k4⟩ := hA2
          refine va_getC hx hb hml hown (va_Nw.use rfl (hTs _ l1)) (va_Dc.use hDc) (va_Nw.use rfl (hTs _ l2)) (va_Nw.use rfl (hTs _ l3)) (va_Nw.use rfl (hTs _ l4)) hM ⟨_, hR.1 j _ hj, rfl, k4⟩ hfr ?_ hdg (k _ _ _ _ hR)
          have z := hwt r
          omega
        · cases hs
      · cases hs
    · rename_i j r hp
      split at hs
      · rename_i u n f hj
        split at hs
        · rename_i hc
          obtain ⟨ht, hc2, hc3, hc4, hc5⟩ := hc
          cases hs
          obtain ⟨l1, l2, l3, l4, l5, l6⟩ := hQ5 _ _ hp
          obtain ⟨hA1, hA2, -⟩ := hKA u _ ht
          have hnm : s.vm.findClass "[B" = some (dA u) := hA2
          obtain ⟨c0, t0', f1, f2, f3⟩ := Cond.castable_spec (hTs _ l6)
          cases hnm.symm.trans f1
          have q1 : H[B + j]? = some (arrV (dA u) n (fun q => ab_v B od (f q))) := hR.1 j _ hj
          have hfits : ∀ i, i < n → fits .byte (ab_v B od (f i)) = true := fun i hi => by
            have z := List.all_eq_true.mp hc5 i (List.mem_range.mpr hi)
            unfold ab_el at z
            split at z
            · rename_i x hx'
              rw [hx']; exact z
            · rename_i hty _; cases hty
            · rename_i hty _; cases hty
            · rename_i hty _; cases hty
            · cases z
          intro T hT X
          obtain ⟨-, kA, hkA, comp, hkind⟩ := State.isArrayOf_alike X.warmed.alike (hA1 0 (fun _ => .null))
          obtain ⟨-, kS, hkS, compS, hkindS⟩ := hA1 0 (fun _ => .null)
          have z4 := hR.2.2.2.1
          have z5 := hR.2.2.2.2.1
          obtain ⟨vm', X', st⟩ := X.cloneArray hx hown (va_Nw.use rfl (hTs _ l1)) (va_Nw.use rfl (hTs _ l2)) (va_Nw.use rfl (hTs _ l3)) (va_Nw.use rfl (hTs _ l4)) (va_Nw.use rfl (hTs _ l5)) (a := B + j) (cell := arrV (dA u) n (fun q => ab_v B od (f q))) (by rw [hT]; exact q1) (fun k h => by cases h) (fun h => by cases h) hnm f2 f3
            (fun i v hv => by
              have hk' : T.vm.classes[dA u]? = some kA := hkA
              have hi : i < n := by
                have := (Array.getElem?_eq_some_iff.mp hv).1
                rw [arrV_size] at this
                exact this
              rw [arrV_read _ _ hi] at hv
              cases hv
              simpa [State.fitsSlot, State.slotType?, arrV, hk', hkind] using hfits i hi)
            (g := F0 m pc ls (List.map (ab_v B od) (Value.ref j :: r))) rfl (by rw [hml]) rfl (by rw [hb]; exact hdg) hfr (by show 2 * 0 + _ + 14 ≤ _; have z := hwt r; omega) (by omega) (by rw [arrV_size]; omega) (hloader := Vm.clonesLoader_of_array hkS hkindS)
          rw [arrV_size] at X'
          generalize hH1 : H.push (arrV (dA u) n (fun q => ab_v B od (f q))) = H1
          have z1 : H1.size = H.size + 1 := by rw [← hH1, Array.size_push]
          have e1 : H1[H.size]? = some (arrV (dA u) n (fun q => ab_v B od (f q))) := by rw [← hH1, Array.getElem?_push_size]
          have o1 : ∀ q : Nat, q < H.size → H1[q]? = H[q]? := fun q hq => by rw [← hH1, Array.getElem?_push, if_neg (Nat.ne_of_lt hq)]
          have hR2 := hR.push (x := .inl (u, n, f)) (n := n) (H1 := H1) rfl hc3 hc4 (by show H1[B + h.length]? = some (arrV (dA u) n (fun q => ab_v B od (f q))); rw [← hR.2.1]; exact e1) z1 o1
          obtain ⟨t', b1, b2⟩ := k _ _ _ _ hR2 ((T.setVm vm').pushCell (arrV (dA u) n (fun q => ab_v B od (f q)))) (by rw [← hH1, ← hT]; rfl) X'
          refine ⟨t', st t' ?_, b2⟩
          rw [hT, hR.2.1]
          exact b1
        · cases hs
      · cases hs
    · cases hs
  case invokestatic x =>
    simp only [ab_s5] at hs
    split at hs
    · rename_i n dp j1 sp j0 r hp
      split at hs
      · rename_i t N0 f u N1 g hj0 hj1
        split at hs
        · rename_i hc
          obtain ⟨rfl, hc2, hc3⟩ := hc
          cases hs
          obtain ⟨l1, l2, l3, l4⟩ := hQ5 _ _ hp
          refine ab_copy hx hb hml hown (va_Nw.use rfl (hTs _ l1)) (va_Nw.use rfl (hTs _ l2)) (va_Nw.use rfl (hTs _ l3)) (va_Nw.use rfl (hTs _ l4)) hTs hKC hKA hOO hsb hR hj0 hj1 (ab_cpb_ok hc3) hfr ?_ hdg (fun H1 locs1 hR1 => k _ _ _ _ hR1)
          have z := hwt S'
          omega
        · cases hs
      · cases hs
    · cases hs
  all_goals (simp only [ab_s5] at hs; cases hs)
end AB10
end
section
/-! calls, throws, returns -/
/-- how an invocation ends: returned, or threw (class number, place) -/
abbrev ab_O : Type := Option Value ⊕ (Nat × Nat)
def ab_o (B : Nat) (od : Nat → Nat) (o : ab_O) : Outcome := match o with
  | .inl v => .returned (v.map (ab_v B od))
  | .inr (_, j) => .threw (B + j)
def ab_Q (below : List Frame) (s : State) (B : Nat) (od : Nat → Nat) (D : va_G) (dA : Nat → ClassId) (cl : List vw_C) (NC NS n0 z0 : Nat) (o : ab_O) (h' : ab_H) (t : State) : Prop :=
  t.status = .running ∧ Ended t below (ab_o B od o) ∧ s.WarmedH t.vm ∧ ∃ (L : List Loc) (k n : Nat), s.sameButNew ({ t with vm := s.vm } : State) L k n ∧ ab_R B od D dA cl NC NS s.heap n0 z0 h' t.heap L k n
theorem ab_steps_weaken {tb : Tables} {e : Env} {g : Frame} {below : List Frame} {a b : State} (h : Steps tb e (g :: below) a b) : Steps tb e below a b := by
  obtain ⟨n, h1, h2⟩ := h
  refine ⟨n, h1, fun k hk => ?_⟩
  obtain ⟨ab, q1, q2, q3⟩ := h2 k hk
  refine ⟨ab ++ [g], by rw [q1]; simp, by simp, fun x hx => ?_⟩
  have := congrArg List.length hx
  cases ab with
  | nil => exact q2 rfl
  | cons y ys => simp at this
section AB3
variable {p : Program} {l : Launch} {e : Env} {R : Room} {s : State} {m : MethodId} {args : Array Value} {below : List Frame} {meth : Method} {c : Code} {T : State} {H : Heap} {locs : List Loc} {cells slots : Nat}
variable {B n0 z0 NC NS : Nat} {od : Nat → Nat} {h h' : ab_H} {D : va_G} {dA : Nat → ClassId} {cl : List vw_C}
/-- where a caller goes on -/
def ab_nx (B : Nat) (od : Nat → Nat) (T' : State) (g : JFrame) (len : Nat) (o : ab_O) : State := match o with
  | .inl v => T'.setTop { g with pc := g.pc + len, stack := (v.map (ab_v B od)).toList ++ g.stack }
  | .inr (_, j) => (T'.setTop g).pushFrame (.throwing (B + j))
/-- the frame of a caller behind a callee -/
theorem ab_R.after {H0 H1 H2 : Heap} {L1 L2 : List Loc} {c1 s1 c2 s2 : Nat} (h1 : ab_R B od D dA cl NC NS H0 n0 z0 h H1 L1 c1 s1) (h2 : ab_R B od D dA cl NC NS H1 h.length (ab_sz h) h' H2 L2 c2 s2) : ab_R B od D dA cl NC NS H0 n0 z0 h' H2 (L1 ++ L2) (c1 + c2) (s1 + s2) := by
  obtain ⟨a1, a2, a3, a4, a5, -⟩ := h1
  obtain ⟨b1, b2, b3, b4, b5, b6⟩ := h2
  refine ⟨b1, b2, ⟨Nat.le_trans a3.1 b3.1, fun q x y => (b3.2.1 q (Nat.lt_of_lt_of_le x a3.1) y).trans (a3.2.1 q x y), fun q hq => ?_⟩, by omega, by omega, b6⟩
  rcases List.mem_append.mp hq with x | x
  · exact a3.2.2 q x
  · exact b3.2.2 q x
/-- a callee's run, taken into the caller's -/
theorem ab_into (X : Stand p l e R s m args below meth c T locs cells slots) (hR : ab_R B od D dA cl NC NS s.heap n0 z0 h T.heap locs cells slots) {g : JFrame} (hg : g.method = m) (hsize : g.locals.size = c.maxLocals) {ig : Instr} {len : Nat} (hdg : decode c.code g.pc = .ok (ig, len))
    {mk : MethodId} {methk : Method} {ck : Code} {a : Array Value} {R' : Room} (hmk : T.vm.method? mk = some methk) (hck : methk.code = some ck) (hlk : methk.locks = false) (hpk : T.plainMethod mk)
    (hframes : R'.frames + 1 ≤ R.frames) (hlocals : 2 * g.monitorRoom + (g.stack.map fun v => v.category).sum + (ck.maxLocals + 11) + R'.locals ≤ R.locals) (hcells : cells + R'.cells ≤ R.cells) (hslots : slots + R'.slots ≤ R.slots) {o : ab_O}
    (ih : W p l e R' (T.calling g mk a) mk a (.java g :: below) methk ck T.heap [] 0 0 (ab_Q (.java g :: below) (T.calling g mk a) B od D dA cl NC NS h.length (ab_sz h) o h') (entryFrame mk a ck.maxLocals)) :
    ∃ (T' : State) (locs' : List Loc) (cells' slots' : Nat), Stand p l e R s m args below meth c T' locs' cells' slots' ∧ ab_R B od D dA cl NC NS s.heap n0 z0 h' T'.heap locs' cells' slots' ∧
      ∀ acts, Steps p.tables e below (doInvoke e (T.setTop g) acts mk a).1 (ab_nx B od T' g len o) := by
  obtain ⟨Y, hin⟩ := X.into hg hsize hdg a (R' := R') hmk hck hlk hpk hframes hlocals hcells hslots
  have hh0 : ((T.setTop g).pushFrame (.java (entryFrame mk a ck.maxLocals))).heap = T.heap := rfl
  obtain ⟨t, st, h1, h2, h3, L, k, n, h4, h5⟩ := ih _ hh0 Y
  have h5' : ab_R B od D dA cl NC NS T.heap h.length (ab_sz h) h' t.heap L k n := h5
  rcases o with v | ⟨ce, j⟩
  · obtain ⟨T', X', hW, -, et⟩ := X.outOf hg hdg h2 h3 h4
    have eh : T'.heap = t.heap := by rw [et]; rfl
    refine ⟨T', _, _, _, X', by rw [eh]; exact hR.after h5', fun acts => ?_⟩
    rw [hin acts]
    show Steps p.tables e below _ (T'.setTop { g with pc := g.pc + len, stack := (v.map (ab_v B od)).toList ++ g.stack })
    rw [← et]
    exact ab_steps_weaken st
  · obtain ⟨T', X', hW, -, et⟩ := X.outOfThrown hg h2 h3 h4
    have eh : T'.heap = t.heap := by rw [et]; rfl
    refine ⟨T', _, _, _, X', by rw [eh]; exact hR.after h5', fun acts => ?_⟩
    rw [hin acts]
    show Steps p.tables e below _ ((T'.setTop g).pushFrame (.throwing (B + j)))
    rw [← et]
    exact ab_steps_weaken st
/-- the invocation begins anew in the middle: what was done before is past -/
theorem ab_rebase (X : Stand p l e R s m args below meth c T locs cells slots) {R' : Room} (h1 : R'.frames ≤ R.frames) (h2 : R'.locals ≤ R.locals) (h3 : cells + R'.cells ≤ R.cells) (h4 : slots + R'.slots ≤ R.slots) :
    Stand p l e R' (T.setFrames (.invoking m args :: below)) m args below meth c T [] 0 0 := by
  obtain ⟨g₀, hfr⟩ := X.frames_eq
  have hcur : T.cur < T.threads.size := State.cur_lt_of_frames hfr
  obtain ⟨th, hth, -⟩ := State.frames_cons hfr
  have hF : (T.setFrames (.invoking m args :: below)).frames = .invoking m args :: below := State.frames_setFrames _ hcur
  have hm : (T.setFrames (.invoking m args :: below)).vm.method? m = some meth := X.method'
  have hroom : (T.setFrames (.invoking m args :: below)).hasRoom e.platform R' = true := by
    obtain ⟨r1, r2, r3, r4⟩ := State.hasRoom_stack X.room
    have r5 := State.hasRoom_real X.room
    have hh := X.room
    simp only [State.hasRoom, Bool.and_eq_true, decide_eq_true_eq] at hh
    rw [State.localsInUse_invoking X.frames X.method X.code] at r3 r4 r5
    rw [X.frames, List.length_cons] at r1 r2
    have hU : (T.setFrames (.invoking m args :: below)).localsInUse = stackWeight below + vmFrameWords + (c.maxLocals + 11) := State.localsInUse_invoking hF hm X.code
    simp only [State.hasRoom, Bool.and_eq_true, decide_eq_true_eq, hF, hU, List.length_cons, State.stackLimits_setFrames, State.stackBytes_setFrames, X.limits, X.bytes]
    refine ⟨⟨⟨⟨by omega, by omega, by omega, by omega, by omega, hh.1.1.1.2.2.2.2.2⟩, ?_⟩, ?_⟩, X.book⟩
    · have := hh.1.1.2
      have := X.heapSize
      show T.heap.size + R'.cells ≤ e.platform.maxCells
      omega
    · have := hh.1.2
      have := X.used
      show T.slotsUsed + R'.slots ≤ e.platform.maxSlots
      omega
  have hcode : ∀ mm : MethodId, (T.setFrames (.invoking m args :: below)).code? mm = s.code? mm := fun mm => by
    rw [State.code?_eq, State.code?_eq]
    show (T.vm.method? mm).bind _ = _
    rw [X.warmed.alike.method?]
  have hmeth : ∀ mm : MethodId, (T.setFrames (.invoking m args :: below)).vm.method? mm = s.vm.method? mm := fun mm => X.warmed.alike.method? mm
  have hhears : (T.setFrames (.invoking m args :: below)).hears m below = true := by
    have hq := X.hears
    cases hb : below with
    | nil => rw [hb] at hq; simp only [State.hears] at hq ⊢; rw [← hb, hmeth]; exact hq
    | cons f r =>
      rw [hb] at hq
      cases f <;> simp only [State.hears] at hq ⊢ <;> first | (rw [← hb, hcode]; exact hq) | (rw [← hb, hmeth]; exact hq) | exact hq
  refine ⟨X.admits, X.cas, X.clock, hF, hroom, hhears, hm, X.code, X.here, X.tail, State.WarmedH.refl _, by rw [State.stackLimits_setFrames], by rw [State.stackBytes_setFrames], ?_⟩
  have h0 := (State.sameButNew.refl (T.setFrames (.invoking m args :: below)) (State.frames_cons hF).choose_spec.1).setFrames T.frames (by exact State.cur_lt_of_frames hF)
  have e0 : ((T.setFrames (.invoking m args :: below)).setFrames T.frames) = T := by
    rw [State.setFrames_setFrames, State.setFrames_self hth]
  rw [e0] at h0
  exact h0
end AB3
end
section
/-! methods, the run, its soundness -/
/-- name, bytes, locals, type of the answer, number of parameters, static, handlers, pool, code (pc, instruction, length, target) -/
abbrev ab_M : Type := MethodName × ByteArray × Nat × Option FieldType × Nat × Bool × List (Nat × Nat × Nat × Nat) × (Nat → Option ab_N) × List (Nat × Instr × Nat × Nat)
abbrev my_y (M : ab_M) : MethodName := M.1
abbrev my_b (M : ab_M) : ByteArray := M.2.1
abbrev my_l (M : ab_M) : Nat := M.2.2.1
abbrev my_r (M : ab_M) : Option FieldType := M.2.2.2.1
abbrev my_n (M : ab_M) : Nat := M.2.2.2.2.1
abbrev my_s (M : ab_M) : Bool := M.2.2.2.2.2.1
abbrev my_h (M : ab_M) : List (Nat × Nat × Nat × Nat) := M.2.2.2.2.2.2.1
abbrev my_p (M : ab_M) : Nat → Option ab_N := M.2.2.2.2.2.2.2.1
abbrev my_c (M : ab_M) : List (Nat × Instr × Nat × Nat) := M.2.2.2.2.2.2.2.2
def ab_fe (M : ab_M) (pc : Nat) : Option (Instr × Nat × Nat) := ((my_c M).find? (fun q => q.1 == pc)).map (fun q => q.2)
/-- the code table is the bytes' own -/
def ab_ck (M : ab_M) : Prop := ∀ q ∈ my_c M, decode (my_b M) q.1 = .ok (q.2.1, q.2.2.1) ∧ (ab_len q.2.1 = 0 ∨ q.2.2.1 = ab_len q.2.1) ∧ ∀ off, ab_off q.2.1 = some off → (q.1 : Int) + off = (q.2.2.2 : Int)
theorem ab_fe_ok {M : ab_M} (hc : ab_ck M) {pc len tg : Nat} {i : Instr} (h : ab_fe M pc = some (i, len, tg)) : decode (my_b M) pc = .ok (i, len) ∧ (ab_len i = 0 ∨ len = ab_len i) ∧ ∀ off, ab_off i = some off → (pc : Int) + off = (tg : Int) := by
  unfold ab_fe at h
  cases hf : (my_c M).find? (fun q => q.1 == pc) with
  | none => rw [hf] at h; cases h
  | some q =>
    rw [hf] at h
    have h1 := List.mem_of_find?_eq_some hf
    have h2 : q.1 = pc := by
      have z := List.find?_some hf
      simpa using z
    have h3 : q.2 = (i, len, tg) := Option.some.inj h
    have h4 := hc q h1
    rw [h3, h2] at h4
    exact h4
/-- returns -/
def ab_rt (M : ab_M) (i : Instr) (S : List Value) : Option (Option Value) := match i, S with
  | .ireturn, [.int v] => (match my_r M with
    | some ty => if ab_ft ty (.int v) = true then some (some (.int v)) else none
    | none => none)
  | .lreturn, [.long v] => if my_r M = some .long then some (some (.long v)) else none
  | .areturn, [.ref v] => (match my_r M with
    | some (.object _) => some (some (.ref v))
    | some (.array _) => some (some (.ref v))
    | _ => none)
  | .areturn, [.null] => (match my_r M with
    | some (.object _) => some (some .null)
    | some (.array _) => some (some .null)
    | _ => none)
  | .return_, [] => if my_r M = none then some none else none
  | _, _ => none
/-- switches -/
def ab_sw (pc : Nat) (i : Instr) (S : List Value) : Option (Nat × List Value) := match i, S with
  | .tableswitch dflt lo hi offs, .int x :: r => if x.toInt < lo ∨ hi < x.toInt then (if 0 ≤ (pc : Int) + dflt then some (((pc : Int) + dflt).toNat, r) else none) else (match offs[(x.toInt - lo).toNat]? with
    | some off => if 0 ≤ (pc : Int) + off then some (((pc : Int) + off).toNat, r) else none
    | none => none)
  | .lookupswitch dflt ps, .int x :: r => if (ps.toList.zip (ps.toList.drop 1)).all (fun (a, next) => a.1 < next.1) = true ∧ 0 ≤ (pc : Int) + Op.lookupswitch.offset ps.toList dflt x.toInt then some (((pc : Int) + Op.lookupswitch.offset ps.toList dflt x.toInt).toNat, r) else none
  | _, _ => none
/-- a call: the method's number, its arguments, what is left on the stack -/
def ab_cs (cl : List vw_C) (mt : List ab_M) (pl : Nat → Option ab_N) (i : Instr) (S : List Value) (h : ab_H) : Option (Nat × List Value × List Value) := match i with
  | .invokestatic x => (match pl x with
    | some (1, j, _, _) => (match mt[j]? with
      | some N => if my_s N = true ∧ my_n N ≤ S.length then some (j, (S.take (my_n N)).reverse, S.drop (my_n N)) else none
      | none => none)
    | _ => none)
  | .invokevirtual x => (match pl x with
    | some (1, j, nst, _) => (match mt[j]? with
      | some N => (match S.drop (my_n N) with
        | .ref q :: r => (match h[q]? with
          | some (.inr (ci, _)) => if my_s N = false ∧ my_n N ≤ S.length ∧ (cl[ci]?).map (fun z => z.1) = some (my_y N).cls ∧ (nst = 2 ∨ nst = 3) then some (j, .ref q :: (S.take (my_n N)).reverse, r) else none
          | _ => none)
        | _ => none)
      | none => none)
    | _ => none)
  | .invokespecial x => (match pl x with
    | some (1, j, _, _) => (match mt[j]? with
      | some N => (match S.drop (my_n N) with
        | .ref q :: r => if my_s N = false ∧ my_n N ≤ S.length ∧ (my_y N).name = "<init>" ∧ my_r N = none ∧ my_h N = [] then some (j, .ref q :: (S.take (my_n N)).reverse, r) else none
        | _ => none)
      | none => none)
    | _ => none)
  | _ => none
/-- entries of a pool: 20 a method (number) that a receiver of class cr (number in cl) inherits; 21 the superclass's own method -/
def ab_cs5 (cl : List vw_C) (oo : Nat → Option (Nat × List Value)) (mt : List ab_M) (pl : Nat → Option ab_N) (i : Instr) (S : List Value) (h : ab_H) : Option (Nat × List Value × List Value) := match i with
  | .invokevirtual x => (match pl x with
    | some (20, j, cr, _) => (match mt[j]? with
      | some N => (match S.drop (my_n N) with
        | .ref q :: r => (match h[q]? with
          | some (.inr (ci, _)) => if my_s N = false ∧ my_n N ≤ S.length ∧ ci = cr then some (j, .ref q :: (S.take (my_n N)).reverse, r) else none
          | _ => none)
        | _ => none)
      | none => none)
    | some (1, j, nst, _) => (match mt[j]? with
      | some N => (match S.drop (my_n N) with
        | .float w :: r => (match oo w.toNat with
          | some (ci, _) => if my_s N = false ∧ my_n N ≤ S.length ∧ (cl[ci]?).map (fun z => z.1) = some (my_y N).cls ∧ nst = 2 then some (j, .float w :: (S.take (my_n N)).reverse, r) else none
          | _ => none)
        | _ => none)
      | none => none)
    | _ => none)
  | .invokespecial x => (match pl x with
    | some (21, j, _, _) => (match mt[j]? with
      | some N => (match S.drop (my_n N) with
        | .ref q :: r => (match h[q]? with
          | some (.inr (_, _)) => if my_s N = false ∧ my_n N ≤ S.length ∧ (my_y N).name ≠ "<init>" then some (j, .ref q :: (S.take (my_n N)).reverse, r) else none
          | _ => none)
        | _ => none)
      | none => none)
    | _ => none)
  | _ => none
def ab_call (cl : List vw_C) (oo : Nat → Option (Nat × List Value)) (mt : List ab_M) (pl : Nat → Option ab_N) (i : Instr) (S : List Value) (h : ab_H) : Option (Nat × List Value × List Value) := match ab_cs cl mt pl i S h with
  | some z => some z
  | none => ab_cs5 cl oo mt pl i S h
/-- Object's constructor -/
def ab_ob (pl : Nat → Option ab_N) (i : Instr) (S : List Value) : Option (List Value) := match i with
  | .invokespecial x => (match pl x, S with
    | some (5, _, _, _), .ref _ :: r => if ab_wt r ≤ 20 then some r else none
    | _, _ => none)
  | _ => none
/-- throw new E("text"): the class's number -/
def ab_th (M : ab_M) (pc : Nat) : Option (Nat × Nat × Nat × Nat) := match ab_fe M pc, ab_fe M (pc + 3), ab_fe M (pc + 4), ab_fe M (pc + 6), ab_fe M (pc + 9) with
  | some (.new a, _, _), some (.dup, _, _), some (.ldc b, _, _), some (.invokespecial d, _, _), some (.athrow, _, _) => (match my_p M a, my_p M b, my_p M d with
    | some (9, ce, _, _), some (7, _, _, .float _), some (10, cf, _, _) => if ce = cf ∧ my_h M = [] then some (ce, a, b, d) else none
    | _, _, _ => none)
  | _, _, _, _, _ => none
/-- throw new E() -/
def ab_th0 (M : ab_M) (pc : Nat) : Option (Nat × Nat × Nat) := match ab_fe M pc, ab_fe M (pc + 3), ab_fe M (pc + 4), ab_fe M (pc + 7) with
  | some (.new a, _, _), some (.dup, _, _), some (.invokespecial d, _, _), some (.athrow, _, _) => (match my_p M a, my_p M d with
    | some (9, ce, _, _), some (14, cf, _, _) => if ce = cf ∧ my_h M = [] then some (ce, a, d) else none
    | _, _ => none)
  | _, _, _, _ => none
/-- the handler of an exception of class ce thrown at pc: catch types are entries (11, class, ..) of the pool; nc: pairs of classes of which the first can't be cast to the second -/
def ab_hd (M : ab_M) (nc : List (Nat × Nat)) (pc ce : Nat) : List (Nat × Nat × Nat × Nat) → Option Nat
  | [] => none
  | q :: r => if q.1 ≤ pc ∧ pc < q.2.1 then (match my_p M q.2.2.2 with
      | some (11, cj, _, _) => if ce = cj then some q.2.2.1 else if (ce, cj) ∈ nc then ab_hd M nc pc ce r else none
      | _ => none) else ab_hd M nc pc ce r
def ab_isx (h : ab_H) (q ce : Nat) : Bool := match h[q]? with
  | some (.inr (c, _)) => c == ce
  | _ => false
theorem ab_isx_ok {h : ab_H} {q ce : Nat} (hq : ab_isx h q ce = true) : ∃ fs, h[q]? = some (.inr (ce, fs)) := by
  unfold ab_isx at hq
  split at hq
  · rename_i c fs he
    have : c = ce := by simpa using hq
    subst this
    exact ⟨fs, he⟩
  · cases hq
def ab_run (cl : List vw_C) (ct : Nat → Nat → FieldType) (cd : Nat → List Value) (aty : List FieldType) (oa : Nat → Option (FieldType × Nat × (Nat → Value))) (oo : Nat → Option (Nat × List Value)) (sb : List (Nat × Nat)) (NC NS : Nat) (nc : List (Nat × Nat)) (mt : List ab_M) : Nat → Nat → Nat → Nat → ab_L → List Value → ab_H → Option (ab_O × ab_H)
  | 0, _, _, _, _, _, _ => none
  | n + 1, d, mi, pc, L, S, h => match mt[mi]? with
    | none => none
    | some M => match ab_fe M pc with
      | none => none
      | some (i, _, tg) => match ab_s1 (my_l M) i pc tg L S with
        | some (pc', L', S') => ab_run cl ct cd aty oa oo sb NC NS nc mt n d mi pc' L' S' h
        | none => match ab_s2 cl ct cd aty oa NC NS (my_p M) ((my_y M).name == "<init>") i pc S h with
          | some (pc', S', h') => ab_run cl ct cd aty oa oo sb NC NS nc mt n d mi pc' L S' h'
          | none => match ab_rt M i S with
            | some v => some (.inl v, h)
            | none => match ab_sw pc i S with
              | some (pc', S') => ab_run cl ct cd aty oa oo sb NC NS nc mt n d mi pc' L S' h
              | none => match ab_ob (my_p M) i S with
                | some S' => ab_run cl ct cd aty oa oo sb NC NS nc mt n d mi (pc + 3) L S' h
                | none => match ab_call cl oo mt (my_p M) i S h with
                  | some (j, as, r) => (match d, mt[j]? with
                    | d' + 1, some N => if ab_wt r + my_l N + 11 ≤ 64 ∧ (lg_sl as).length ≤ my_l N ∧ j ≠ 0 then (match ab_run cl ct cd aty oa oo sb NC NS nc mt n d' j 0 (lv_args 0 as) [] h with
                        | some (.inl v, h') => ab_run cl ct cd aty oa oo sb NC NS nc mt n d mi (pc + 3) L (v.toList ++ r) h'
                        | some (.inr (ce, q), h') => if my_h M = [] then some (.inr (ce, q), h') else if ab_isx h' q ce = true then (match ab_hd M nc pc ce (my_h M) with
                          | some hp => ab_run cl ct cd aty oa oo sb NC NS nc mt n d mi hp L [.ref q] h'
                          | none => none) else none
                        | none => none) else none
                    | _, _ => none)
                  | none => match ab_th M pc with
                    | some (ce, _, _, _) => if h.length + 1 ≤ NC ∧ ab_sz h + 6 ≤ NS ∧ S = [] then some (.inr (ce, h.length), h ++ [.inr (ce, List.replicate 6 .null)]) else none
                    | none => match ab_th0 M pc with
                      | some (ce, _, _) => if h.length + 1 ≤ NC ∧ ab_sz h + 6 ≤ NS ∧ S = [] then some (.inr (ce, h.length), h ++ [.inr (ce, List.replicate 6 .null)]) else none
                      | none => match ab_s4 aty oa sb oo NC NS (my_p M) i pc tg S h with
                        | some (pc', S', h') => ab_run cl ct cd aty oa oo sb NC NS nc mt n d mi pc' L S' h'
                        | none => match ab_s5 aty sb oo NC NS (my_p M) i pc S h with
                          | some (pc', S', h') => ab_run cl ct cd aty oa oo sb NC NS nc mt n d mi pc' L S' h'
                          | none => none
end
section
section AB5
variable {p : Program} {l : Launch} {e : Env} {R : Room} {s : State} {m : MethodId} {args : Array Value} {below : List Frame} {meth : Method} {c : Code} {T : State} {H : Heap} {locs : List Loc} {cells slots : Nat} {Q : State → Prop}
variable {B n0 z0 NC NS pc len : Nat} {od : Nat → Nat} {h h' : ab_H} {D : va_G} {dA : Nat → ClassId} {cl : List vw_C} {M : ab_M} {i : Instr} {S S' : List Value} {ls : Array Slot} {cc : ByteArray}
theorem ab_W.mono {Q' : State → Prop} {g : JFrame} (w : W p l e R s m args below meth c H locs cells slots Q g) (hq : ∀ t, Q t → Q' t) : W p l e R s m args below meth c H locs cells slots Q' g := fun T hT X => by
  obtain ⟨t, a, b⟩ := w T hT X
  exact ⟨t, a, hq t b⟩
theorem ab_MQ (hR : ab_R B od D dA cl NC NS s.heap n0 z0 h H locs cells slots) {o : ab_O} {t : State} (hq : MQ below (fun _ _ oc t => oc = ab_o B od o ∧ t.heap = H) args s cells slots (fun q => B ≤ q) t) : ab_Q below s B od D dA cl NC NS n0 z0 o h t := by
  obtain ⟨oc, h1, h2, ⟨h3, h4⟩, L, ⟨-, h6, h7⟩, h8⟩ := hq
  subst h3
  refine ⟨h1, h2, h6, L, cells, slots, h7, ?_⟩
  rw [h4]
  exact ⟨hR.1, hR.2.1, ⟨hR.2.2.1.1, hR.2.2.1.2.1, h8⟩, hR.2.2.2⟩
set_option maxHeartbeats 2000000 in
theorem ab_rt_ok (hx : p.tables.exec = Jvm.exec) (hb : c.code = cc) (hr : meth.sig.returnType = my_r M) (hlocks : meth.locks = false) (hdg : decode cc pc = .ok (i, len)) (hlen : ab_len i = 0 ∨ len = ab_len i) {v : Option Value} (hs : ab_rt M i S = some v) (hR : ab_R B od D dA cl NC NS s.heap n0 z0 h H locs cells slots) :
    W p l e R s m args below meth c H locs cells slots (ab_Q below s B od D dA cl NC NS n0 z0 (.inl v) h) (F0 m pc ls (S.map (ab_v B od))) := by
  have hf : ∀ q ∈ locs, B ≤ q.base := hR.2.2.1.2.2
  unfold ab_rt at hs
  split at hs
  · rename_i x
    have hl : len = 1 := by rcases hlen with q | q; exact absurd q (by decide); exact q
    subst hl
    split at hs
    · rename_i ty hty
      split at hs
      · rename_i hft
        cases hs
        exact ab_W.mono (W.zret (v := x) (Qc := fun _ _ oc t => oc = ab_o B od (.inl (some (.int x))) ∧ t.heap = H) (free := fun q => B ≤ q) hx hb (hr.trans hty) (ab_ft_ok (B := B) (od := od) hft).1 (fun t ht _ => ⟨rfl, ht⟩) hf hdg) (fun t => ab_MQ hR)
      · cases hs
    · cases hs
  · rename_i x
    have hl : len = 1 := by rcases hlen with q | q; exact absurd q (by decide); exact q
    subst hl
    split at hs
    · rename_i hty
      cases hs
      exact ab_W.mono (W.lret (v := x) (Qc := fun _ _ oc t => oc = ab_o B od (.inl (some (.long x))) ∧ t.heap = H) (free := fun q => B ≤ q) hx hb (hr.trans hty) (fun t ht _ => ⟨rfl, ht⟩) hf hdg) (fun t => ab_MQ hR)
    · cases hs
  · rename_i x
    have hl : len = 1 := by rcases hlen with q | q; exact absurd q (by decide); exact q
    subst hl
    split at hs
    · rename_i nm hty
      cases hs
      exact ab_W.mono (W.aret (v := .ref (B + x)) (Qc := fun _ _ oc t => oc = ab_o B od (.inl (some (.ref x))) ∧ t.heap = H) (free := fun q => B ≤ q) hx hb (hr.trans hty) (Or.inl ⟨_, rfl⟩) (Or.inr ⟨_, rfl⟩) (fun t ht _ => ⟨rfl, ht⟩) hf hdg) (fun t => ab_MQ hR)
    · rename_i nm hty
      cases hs
      exact ab_W.mono (W.aret (v := .ref (B + x)) (Qc := fun _ _ oc t => oc = ab_o B od (.inl (some (.ref x))) ∧ t.heap = H) (free := fun q => B ≤ q) hx hb (hr.trans hty) (Or.inr ⟨_, rfl⟩) (Or.inr ⟨_, rfl⟩) (fun t ht _ => ⟨rfl, ht⟩) hf hdg) (fun t => ab_MQ hR)
    · cases hs
  · have hl : len = 1 := by rcases hlen with q | q; exact absurd q (by decide); exact q
    subst hl
    split at hs
    · rename_i nm hty
      cases hs
      exact ab_W.mono (W.aret (v := .null) (Qc := fun _ _ oc t => oc = ab_o B od (.inl (some .null)) ∧ t.heap = H) (free := fun q => B ≤ q) hx hb (hr.trans hty) (Or.inl ⟨_, rfl⟩) (Or.inl rfl) (fun t ht _ => ⟨rfl, ht⟩) hf hdg) (fun t => ab_MQ hR)
    · rename_i nm hty
      cases hs
      exact ab_W.mono (W.aret (v := .null) (Qc := fun _ _ oc t => oc = ab_o B od (.inl (some .null)) ∧ t.heap = H) (free := fun q => B ≤ q) hx hb (hr.trans hty) (Or.inr ⟨_, rfl⟩) (Or.inl rfl) (fun t ht _ => ⟨rfl, ht⟩) hf hdg) (fun t => ab_MQ hR)
    · cases hs
  · have hl : len = 1 := by rcases hlen with q | q; exact absurd q (by decide); exact q
    subst hl
    split at hs
    · rename_i hty
      cases hs
      exact ab_W.mono (W.vret (Qc := fun _ _ oc t => oc = ab_o B od (.inl none) ∧ t.heap = H) (free := fun q => B ≤ q) hx hb (hr.trans hty) (fun t ht _ => ⟨rfl, ht⟩) hf hdg) (fun t => ab_MQ hR)
    · cases hs
  · cases hs
theorem ab_sw_ok (hx : p.tables.exec = Jvm.exec) (hb : c.code = cc) (hdg : decode cc pc = .ok (i, len)) {pc' : Nat} (hs : ab_sw pc i S = some (pc', S'))
    (k : W p l e R s m args below meth c H locs cells slots Q (F0 m pc' ls (S'.map (ab_v B od)))) : W p l e R s m args below meth c H locs cells slots Q (F0 m pc ls (S.map (ab_v B od))) := by
  unfold ab_sw at hs
  split at hs
  · rename_i dflt lo hi offs x r
    split at hs
    · rename_i hc
      split at hs
      · rename_i h0
        cases hs
        exact lv_tableOut hx hb hdg hc (by omega) k
      · cases hs
    · rename_i hc
      split at hs
      · rename_i off ho
        split at hs
        · rename_i h0
          cases hs
          exact lv_tableIn hx hb hdg (fun q => hc (Or.inl q)) (fun q => hc (Or.inr q)) ho (by omega) k
        · cases hs
      · cases hs
  · rename_i dflt ps x r
    split at hs
    · rename_i hc
      cases hs
      exact lv_lookup hx hb hdg hc.1 rfl (by omega) k
    · cases hs
  · cases hs
theorem ab_ob_ok (hx : p.tables.exec = Jvm.exec) (hb : c.code = cc) {own : String} (hown : s.vm.findClass own = some m.cls) {pl : Nat → Option ab_N} (hml : ls.size = c.maxLocals) (hfr : 1 ≤ R.frames) (hlo : 40 ≤ R.locals)
    (h5 : ∀ x a b v, pl x = some (5, a, b, v) → va_Nw (.methodLink own x Lib.objectInit) s ∧ va_Nw (.instanceMethod Lib.objectInit) s ∧ va_Nw (.code Lib.objectInit ⟨#[0xb1]⟩ 1 none) s)
    (hdg : decode cc pc = .ok (i, len)) (hlen : ab_len i = 0 ∨ len = ab_len i) (hs : ab_ob pl i S = some S')
    (k : W p l e R s m args below meth c H locs cells slots Q (F0 m (pc + 3) ls (S'.map (ab_v B od)))) : W p l e R s m args below meth c H locs cells slots Q (F0 m pc ls (S.map (ab_v B od))) := by
  unfold ab_ob at hs
  split at hs
  · rename_i x
    have hl : len = 3 := by rcases hlen with q | q; exact absurd q (by simp [ab_len]); exact q
    subst hl
    split at hs
    · rename_i a b v j r hp
      split at hs
      · rename_i hw
        cases hs
        obtain ⟨w1, w2, w3⟩ := h5 _ _ _ _ hp
        have e1 : ((S'.map (ab_v B od)).map fun v => v.category) = (S'.map fun v => v.category) := by
          rw [List.map_map]
          apply List.map_congr_left
          intro v _
          exact ab_v_cat B od v
        have e2 : ((S'.map (ab_v B od)).map fun v => v.category).sum ≤ 20 := by rw [e1]; exact hw
        refine W.objInit hx hb hown (va_Nw.use rfl w1) (va_Nw.use rfl w2) (va_Nw.use rfl w3) rfl hml rfl hdg hfr ?_ k
        have e3 : (F0 m pc ls (List.map (ab_v B od) (Value.ref j :: S'))).monitorRoom = 0 := rfl
        rw [e3]
        omega
      · cases hs
    · cases hs
  · cases hs
end AB5
end
section
/-- what the words Ts say of a method -/
def ab_mw (Ts : List Cond) (N : ab_M) : Prop :=
  ((my_h N = [] ∧ Cond.code (my_y N) (my_b N) (my_l N) (my_r N) ∈ Ts) ∨ (my_h N ≠ [] ∧ Cond.codeWith (my_y N) (my_b N) (my_l N) (my_r N) (my_h N) ∈ Ts)) ∧ Cond.initialized (my_y N).cls ∈ Ts ∧ plainFor (my_y N) = true ∧
  ((my_y N).cls ≠ "java/lang/invoke/MethodHandle" ∧ (my_y N).cls ≠ "java/lang/invoke/VarHandle") ∧ (parseMethodDescriptor (my_y N).desc).map (fun d => d.parameters.length) = some (my_n N) ∧
  (my_s N = true → Cond.static (my_y N) ∈ Ts) ∧ (my_s N = false → Cond.instanceMethod (my_y N) ∈ Ts)
/-- the method as the tables have it -/
def ab_mf (N : ab_M) (s : State) (mk : MethodId) (methk : Method) (ck : Code) (kk : Class) : Prop :=
  s.methodNamed? (my_y N) = some mk ∧ s.vm.method? mk = some methk ∧ methk.code = some ck ∧ ck.code = my_b N ∧ ck.maxLocals = my_l N ∧ methk.sig.returnType = my_r N ∧ methk.locks = false ∧ ck.exceptionTable.toList = tableOf (my_h N) ∧ methk.sig.parameters.length = my_n N ∧
  s.vm.classes[mk.cls]? = some kk ∧ kk.name = (my_y N).cls ∧ kk.init = .initialized ∧ methk.name = (my_y N).name
theorem ab_mf_of {Ts : List Cond} {N : ab_M} {s : State} (hw : ab_mw Ts N) (hTs : ∀ w ∈ Ts, va_Nw w s) : ∃ mk methk ck kk, ab_mf N s mk methk ck kk := by
  obtain ⟨w1, w2, w3, w4, w5, w6, w7⟩ := hw
  have key : ∃ mk methk ck, s.methodNamed? (my_y N) = some mk ∧ s.vm.method? mk = some methk ∧ methk.code = some ck ∧ ck.code = my_b N ∧ ck.maxLocals = my_l N ∧ methk.sig.returnType = my_r N ∧ methk.locks = false ∧ ck.exceptionTable.toList = tableOf (my_h N) ∧ parseMethodDescriptor (my_y N).desc = some methk.sig := by
    rcases w1 with ⟨w1, w1'⟩ | ⟨-, w1⟩
    · have hc := hTs _ w1'
      obtain ⟨mk, hn⟩ := Cond.code_named hc
      obtain ⟨methk, ck, g1, g2, g3, g4, g5, g6, g7, g8⟩ := Cond.code_spec hn hc
      refine ⟨mk, methk, ck, hn, g1, g2, g3, g4, g5, g6, ?_, g8⟩
      rw [w1]
      have : ck.exceptionTable = #[] := by simpa using g7
      rw [this]; rfl
    · obtain ⟨mk, methk, ck, hn, g1, g2, g3, g4, g5, g6, g7, g8⟩ := Cond.codeWith_spec (hTs _ w1)
      refine ⟨mk, methk, ck, hn, g1, g2, g3, g4, g6, g7, ?_, ?_⟩
      · rw [← g5, table_eq]
      · first | exact g8 | exact g8.1 | exact g8.2
  obtain ⟨mk, methk, ck, hn, g1, g2, g3, g4, g5, g6, g7, g8⟩ := key
  obtain ⟨kk, hk, hnm⟩ := className_of_methodNamed hn
  have hinit := Cond.initialized_spec (findClass_of_methodNamed hn) hk (hTs _ w2)
  rw [g8] at w5
  exact ⟨mk, methk, ck, kk, hn, g1, g2, g3, g4, g5, g6, g7, by simpa using w5, hk, hnm, hinit, (name_of_methodNamed hn g1).1⟩
/-- what the words Ts say of a place in a pool that names a method -/
def ab_pm (Ts : List Cond) (mt : List ab_M) (own : String) (x : Nat) (n : ab_N) : Prop := match n with
  | (1, j, nst, _) => ∃ N : ab_M, mt[j]? = some N ∧ ((nst = 0 ∧ Cond.methodLink own x (my_y N) ∈ Ts) ∨ (nst = 1 ∧ ∃ host : String, Cond.methodLinkNest own x (my_y N) host ∈ Ts) ∨ (nst = 2 ∧ Cond.methodLink own x (my_y N) ∈ Ts ∧ Cond.selects (my_y N).cls (my_y N) (my_y N) ∈ Ts) ∨ (nst = 3 ∧ Cond.selects (my_y N).cls (my_y N) (my_y N) ∈ Ts ∧ ∃ host : String, Cond.methodLinkNest own x (my_y N) host ∈ Ts))
  | (5, _, _, _) => Cond.methodLink own x Lib.objectInit ∈ Ts ∧ Cond.instanceMethod Lib.objectInit ∈ Ts ∧ Cond.code Lib.objectInit ⟨#[0xb1]⟩ 1 none ∈ Ts
  | _ => True
section AB6
variable {p : Program} {l : Launch} {e : Env} {R : Room} {s : State} {m : MethodId} {args : Array Value} {below : List Frame} {meth : Method} {c : Code} {T : State} {H : Heap} {locs : List Loc} {cells slots : Nat} {Q : State → Prop}
variable {B n0 z0 NC NS pc len : Nat} {od : Nat → Nat} {h h' : ab_H} {D : va_G} {dA : Nat → ClassId} {cl : List vw_C} {M N : ab_M} {i : Instr} {S S' : List Value} {ls : Array Slot} {cc : ByteArray} {Ts : List Cond} {mt : List ab_M} {pl : Nat → Option ab_N} {own : String}
theorem ab_split {S : List Value} {n : Nat} : S = ((S.take n).reverse).reverse ++ S.drop n := by
  rw [List.reverse_reverse, List.take_append_drop]
/-- a call's own instruction: what it resolves, and the invocation that it makes -/
theorem ab_cs_ok (X : Stand p l e R s m args below meth c T locs cells slots) (hx : p.tables.exec = Jvm.exec) (hb : c.code = cc) (hown : s.vm.findClass own = some m.cls) (hTs : ∀ w ∈ Ts, va_Nw w s) (hKC : ab_KC D cl s) (hw : ab_mw Ts N) (hpm : ∀ x n, pl x = some n → ab_pm Ts mt own x n)
    (hdg : decode cc pc = .ok (i, len)) (hlen : ab_len i = 0 ∨ len = ab_len i) (hR : ab_R B od D dA cl NC NS s.heap n0 z0 h T.heap locs cells slots) {j : Nat} {as r : List Value} (hs : ab_cs cl mt pl i S h = some (j, as, r)) (hN : mt[j]? = some N) :
    len = 3 ∧ ∃ (vm₁ : Vm) (mk : MethodId) (methk : Method) (ck : Code) (kk : Class), ab_mf N s mk methk ck kk ∧ s.WarmedH vm₁ ∧ Stand p l e R s m args below meth c (T.setVm vm₁) locs cells slots ∧
      ∀ target, (∀ acts, Steps p.tables e below (doInvoke e ((T.setVm vm₁).setTop (F0 m pc ls (r.map (ab_v B od)))) acts mk (as.map (ab_v B od)).toArray).1 target) → Steps p.tables e below (T.setTop (F0 m pc ls (S.map (ab_v B od)))) target := by
  subst hb
  obtain ⟨mk, methk, ck, kk, hmf⟩ := ab_mf_of hw hTs
  have hmf' := hmf
  obtain ⟨f1, f2, f3, f4, f5, f6, f7, f8, f9, f10, f11, f12, f13⟩ := hmf
  obtain ⟨w1, w2, w3, w4, w5, w6, w7⟩ := hw
  unfold ab_cs at hs
  split at hs
  · rename_i x
    have hl : len = 3 := by rcases hlen with q | q; exact absurd q (by simp [ab_len]); exact q
    subst hl
    refine ⟨rfl, ?_⟩
    split at hs
    · rename_i j' nst v hp
      split at hs
      · rename_i N' hN'
        split at hs
        · rename_i hc
          cases hs
          cases hN.symm.trans hN'
          obtain ⟨N2, hN2, hl2⟩ := hpm _ _ hp
          cases hN.symm.trans hN2
          have hst : methk.isStatic = true := Cond.static_spec f1 f2 (hTs _ (w6 hc.1))
          have hlenA : (((S.take (my_n N)).reverse).map (ab_v B od)).length = methk.sig.parameters.length := by
            rw [f9]; simp; omega
          have hstk : (F0 m pc ls (S.map (ab_v B od))).stack = (((S.take (my_n N)).reverse).map (ab_v B od)).reverse ++ (S.drop (my_n N)).map (ab_v B od) := by
            show S.map (ab_v B od) = _
            rw [← List.map_reverse, List.reverse_reverse, ← List.map_append, List.take_append_drop]
          rcases hl2 with ⟨-, q⟩ | ⟨-, host, q⟩ | ⟨-, q, -⟩ | ⟨-, -, host, q⟩
          · obtain ⟨vm₁, X₁, st⟩ := X.invokestatic hx hown (va_Nw.use rfl (hTs _ q)) f1 f2 hst f10 f12 w4 (g := F0 m pc ls (S.map (ab_v B od))) rfl hlenA hstk hdg
            exact ⟨vm₁, mk, methk, ck, kk, hmf', X₁.warmed, X₁, st⟩
          · obtain ⟨vm₁, X₁, st⟩ := X.invokestaticNest hx hown (va_Nw.use rfl (hTs _ q)) f1 f2 hst f10 f12 w4 (g := F0 m pc ls (S.map (ab_v B od))) rfl hlenA hstk hdg
            exact ⟨vm₁, mk, methk, ck, kk, hmf', X₁.warmed, X₁, st⟩
          · obtain ⟨vm₁, X₁, st⟩ := X.invokestatic hx hown (va_Nw.use rfl (hTs _ q)) f1 f2 hst f10 f12 w4 (g := F0 m pc ls (S.map (ab_v B od))) rfl hlenA hstk hdg
            exact ⟨vm₁, mk, methk, ck, kk, hmf', X₁.warmed, X₁, st⟩
          · obtain ⟨vm₁, X₁, st⟩ := X.invokestaticNest hx hown (va_Nw.use rfl (hTs _ q)) f1 f2 hst f10 f12 w4 (g := F0 m pc ls (S.map (ab_v B od))) rfl hlenA hstk hdg
            exact ⟨vm₁, mk, methk, ck, kk, hmf', X₁.warmed, X₁, st⟩
        · cases hs
      · cases hs
    · cases hs
  · rename_i x
    have hl : len = 3 := by rcases hlen with q | q; exact absurd q (by simp [ab_len]); exact q
    subst hl
    refine ⟨rfl, ?_⟩
    split at hs
    · rename_i j' nst v hp
      split at hs
      · rename_i N' hN'
        split at hs
        · rename_i q0 r0 hdr
          split at hs
          · rename_i ci fs hq
            split at hs
            · rename_i hc
              obtain ⟨hc1, hc2, hc3, hc4⟩ := hc
              cases hs
              cases hN.symm.trans hN'
              obtain ⟨N2, hN2, hl2⟩ := hpm _ _ hp
              cases hN.symm.trans hN2
              obtain ⟨mk', meth', g1, g2, g3, g4⟩ := Cond.instanceMethod_spec (hTs _ (w7 hc1))
              cases f1.symm.trans g1
              cases f2.symm.trans g2
              obtain ⟨r1, hr1, cell, q1, q2, q3, q4⟩ := hR.1 q0 _ hq
              have hcn : r1.1 = (my_y N).cls := by rw [hr1] at hc3; simpa using hc3
              have hcls : s.vm.findClass (my_y N).cls = some cell.cls := by rw [q2, ← hcn]; exact (hKC ci r1 hr1).1.2.1
              have hobj : ∀ z, cell.vm ≠ .statics z := fun z hz => by rw [q3] at hz; cases hz
              have hlenA : (((S.take (my_n N)).reverse).map (ab_v B od)).length = methk.sig.parameters.length := by
                rw [f9]; simp; omega
              have hstk : (F0 m pc ls (S.map (ab_v B od))).stack = (((S.take (my_n N)).reverse).map (ab_v B od)).reverse ++ .ref (B + q0) :: r.map (ab_v B od) := by
                show S.map (ab_v B od) = _
                rw [← List.map_reverse, List.reverse_reverse]
                have : S = S.take (my_n N) ++ (.ref q0 :: r) := by rw [← hdr, List.take_append_drop]
                conv => lhs; rw [this]
                rw [List.map_append]
                rfl
              have selOf : Cond.selects (my_y N).cls (my_y N) (my_y N) ∈ Ts → selectMethod e.platform s.vm cell.cls mk = .method mk ∧ kk.isInterface = false := fun q => by
                obtain ⟨c2, r2, m2, q1', q2', q3', q4', kP, hkP, hkPi⟩ := Cond.selects_spec (hTs _ q)
                cases hcls.symm.trans q1'
                cases (State.methodFound?_of_named f1 w4).symm.trans q2'
                cases f1.symm.trans q3'
                cases f10.symm.trans hkP
                exact ⟨by rw [Launch.admits_selectMethod X.admits]; exact q4', hkPi⟩
              rcases hl2 with ⟨h0, q⟩ | ⟨h0, host, q⟩ | ⟨-, q, qs⟩ | ⟨-, qs, host, q⟩
              · rw [h0] at hc4; rcases hc4 with z | z <;> cases z
              · rw [h0] at hc4; rcases hc4 with z | z <;> cases z
              · obtain ⟨hsel, hni⟩ := selOf qs
                obtain ⟨vm₁, X₁, st⟩ := X.invokevirtual hx hown (va_Nw.use rfl (hTs _ q)) f1 f2 g3 f10 hni w4 (a := B + q0) (cell := cell) q1 hobj hsel f2 g4 f10 hni (g := F0 m pc ls (S.map (ab_v B od))) rfl hlenA hstk hdg
                exact ⟨vm₁, mk, methk, ck, kk, hmf', X₁.warmed, X₁, st⟩
              · obtain ⟨hsel, hni⟩ := selOf qs
                obtain ⟨vm₁, X₁, st⟩ := X.invokevirtualNest hx hown (va_Nw.use rfl (hTs _ q)) f1 f2 g3 f10 hni w4 (a := B + q0) (cell := cell) q1 hobj hsel f2 g4 f10 hni (g := F0 m pc ls (S.map (ab_v B od))) rfl hlenA hstk hdg
                exact ⟨vm₁, mk, methk, ck, kk, hmf', X₁.warmed, X₁, st⟩
            · cases hs
          · cases hs
        · cases hs
      · cases hs
    · cases hs
  · rename_i x
    have hl : len = 3 := by rcases hlen with q | q; exact absurd q (by simp [ab_len]); exact q
    subst hl
    refine ⟨rfl, ?_⟩
    split at hs
    · rename_i j' nst v hp
      split at hs
      · rename_i N' hN'
        split at hs
        · rename_i q0 r0 hdr
          split at hs
          · rename_i hc
            obtain ⟨hc1, hc2, hc3, hc4, hc5⟩ := hc
            cases hs
            cases hN.symm.trans hN'
            obtain ⟨N2, hN2, hl2⟩ := hpm _ _ hp
            cases hN.symm.trans hN2
            have hcode : va_Nw (.code (my_y N) (my_b N) (my_l N) none) s := by
              rcases w1 with ⟨-, q⟩ | ⟨q, -⟩
              · rw [hc4] at q; exact hTs _ q
              · exact absurd hc5 q
            have hpl : e.platform.magicAccessors = ({} : Platform).magicAccessors := by rw [X.admits.platform]
            have hlenA : ∀ sig, parseMethodDescriptor (my_y N).desc = some sig → (((S.take (my_n N)).reverse).map (ab_v B od)).length = sig.parameters.length := fun sig hsig => by
              rw [hsig] at w5
              have : sig.parameters.length = my_n N := by simpa using w5
              rw [this]; simp; omega
            have hstk : (F0 m pc ls (S.map (ab_v B od))).stack = (((S.take (my_n N)).reverse).map (ab_v B od)).reverse ++ .ref (B + q0) :: r.map (ab_v B od) := by
              show S.map (ab_v B od) = _
              rw [← List.map_reverse, List.reverse_reverse]
              have : S = S.take (my_n N) ++ (.ref q0 :: r) := by rw [← hdr, List.take_append_drop]
              conv => lhs; rw [this]
              rw [List.map_append]
              rfl
            have hq : Cond.methodLink own x (my_y N) ∈ Ts ∨ ∃ host, Cond.methodLinkNest own x (my_y N) host ∈ Ts := by
              rcases hl2 with ⟨-, q⟩ | ⟨-, host, q⟩ | ⟨-, q, -⟩ | ⟨-, -, host, q⟩
              · exact Or.inl q
              · exact Or.inr ⟨host, q⟩
              · exact Or.inl q
              · exact Or.inr ⟨host, q⟩
            rcases hq with q | ⟨host, q⟩
            · obtain ⟨tm, meth2, cd2, k2, vm₁, e1, e2, e3, e4, e5, e6, e7, e8, hW₁, st⟩ := Steps.initColdArgs (e := e) X.here hx X.warmed hpl hown hc3 w4 (va_Nw.use (A := args) rfl (hTs _ q)) (va_Nw.use rfl (hTs _ (w7 hc1))) (va_Nw.use rfl hcode) (f := F0 m pc ls (S.map (ab_v B od))) rfl hlenA hstk hdg
              cases f1.symm.trans e1
              exact ⟨vm₁, mk, methk, ck, kk, hmf', hW₁, X.noted hW₁, st⟩
            · obtain ⟨tm, meth2, cd2, k2, vm₁, e1, e2, e3, e4, e5, e6, e7, e8, hW₁, st⟩ := Steps.initColdArgsNest (e := e) X.here hx X.warmed hpl hown hc3 w4 (va_Nw.use (A := args) rfl (hTs _ q)) (va_Nw.use rfl (hTs _ (w7 hc1))) (va_Nw.use rfl hcode) (f := F0 m pc ls (S.map (ab_v B od))) rfl hlenA hstk hdg
              cases f1.symm.trans e1
              exact ⟨vm₁, mk, methk, ck, kk, hmf', hW₁, X.noted hW₁, st⟩
          · cases hs
        · cases hs
      · cases hs
    · cases hs
  · cases hs
end AB6
end
section
/-! handlers: the search of a method's table, its catch types resolved or not -/
section AB6A
variable {e : Env} {s u : State} {g : JFrame} {a : Addr}
/-- a row of the table whose catch type is resolved by the search itself -/
theorem ab_go_cold {x : ExceptionTableEntry} {t : List ExceptionTableEntry} {c : ClassId} {vm' : Vm} {Q : Handler → Pre} {E : CtlPost} {d : Bool} {acts : List Action} (hx : covers x g.pc = true) (h0 : x.catchType ≠ 0)
    (hg : (Jvm.resolveClass g.method.cls x.catchType).Gives e.toSetting u.vm (.ok c) vm') (hr : vm'.classReady g.method.cls x.catchType c) (hsz : vm'.classes.size ≤ u.vm.classes.size) :
    wp (findHandler.go g a (x :: t)) Q E e d acts u ↔ wp (findHandler.go g a (x :: t)) Q E e d acts (u.setVm vm') := by
  obtain ⟨ha, ht⟩ := hg.op (op := VmOp.resolveClass g.method.cls x.catchType) rfl
  simp only [covers] at hx
  obtain ⟨k, hkd, hres⟩ := hr
  have q := resolveClass_memo (vm := vm') e hkd hres
  have l1 : (VmOp.resolveClass g.method.cls x.catchType).lands e u = .done (u.setVm vm') := VmOp.lands_eq ht hsz
  have l2 : (VmOp.resolveClass g.method.cls x.catchType).lands e (u.setVm vm') = .done (u.setVm vm') := VmOp.lands_eq (s := u.setVm vm') q.2 (Nat.le_refl _)
  have q1 : (VmOp.resolveClass g.method.cls x.catchType).answer e (u.setVm vm').vm = .ok c := q.1
  simp [findHandler.go, hx, h0, ha, l1, l2, q1, q.1, VmOp.dirties, VmOp.acts]
/-- what the search gives, and the tables that it leaves -/
def ab_Fd (e : Env) (u : State) (g : JFrame) (a : Addr) (hd : Handler) (vm' : Vm) : Prop :=
  ∀ (Q : Handler → Pre) (E : CtlPost) (d : Bool) (acts : List Action), wp (findHandler g a) Q E e d acts u ↔ Q hd d acts (u.setVm vm')
theorem ab_step_catch {r : List Frame} {pc : Nat} {vm' : Vm} (hfind : ab_Fd e u g a (.found pc) vm') :
    (stepThrowing e u a (.java g :: r)).Is ((u.setVm vm').setFrames (.java { g with pc := pc, stack := [.ref a] } :: r)) [] := by
  simp only [stepThrowing, searchFrame, vmDo]
  generalize hr : Sem.go _ e false [] u = res
  obtain ⟨as, rfl, ha⟩ := Sem.eq_ok_of hr (a := Handler.found pc) (s' := u.setVm vm') (acts' := []) (by simp [hfind _ _ _ _])
  exact ⟨rfl, ha⟩
theorem ab_caught {tb : Tables} {T target : State} {c : Code} {below : List Frame} {pc : Nat} {vm' : Vm} (h : At T g.method c below) (hfind : ab_Fd e ((T.setTop g).pushFrame (.throwing a)) g a (.found pc) vm')
    (hrest : Steps tb e below ((T.setVm vm').setTop { g with pc := pc, stack := [.ref a] }) target) :
    Steps tb e below ((T.setTop g).pushFrame (.throwing a)) target := by
  obtain ⟨hgo, hw⟩ := h.throwing a
  refine Steps.head hgo hw ?_
  rw [stepThread_throwing (frames_entered h.top _), (ab_step_catch (u := (T.setTop g).pushFrame (.throwing a)) hfind).1]
  obtain ⟨g₀, hg⟩ := Option.isSome_iff_exists.mp h.top
  obtain ⟨r, hr⟩ := State.topJava?_eq_some.mp hg
  have hr' : (T.setVm vm').frames = .java g₀ :: r := hr
  rw [State.setTop_of_frames _ hr'] at hrest
  have e0 : (((T.setTop g).pushFrame (.throwing a)).setVm vm').setFrames (.java { g with pc := pc, stack := [.ref a] } :: T.frames.tail) = (T.setVm vm').setFrames (.java { g with pc := pc, stack := [.ref a] } :: r) := by
    rw [hr]
    show (((T.setTop g).pushFrame (.throwing a)).setFrames _).setVm vm' = (T.setFrames _).setVm vm'
    rw [State.pushFrame, State.setFrames_setFrames, State.setTop_of_frames _ hr, State.setFrames_setFrames]
    rfl
  rw [e0]
  exact hrest
variable {D : va_G} {cl : List vw_C} {Ts : List Cond} {M : ab_M} {nc : List (Nat × Nat)} {own : String}
/-- what the words say of a catch type's entry -/
def ab_p11 (cl : List vw_C) (Ts : List Cond) (own : String) (x : Nat) (n : ab_N) : Prop := match n with
  | (11, cj, _, _) => x ≠ 0 ∧ ∃ r : vw_C, cl[cj]? = some r ∧ Cond.classLink own x r.1 ∈ Ts
  | _ => True
def ab_NCs (D : va_G) (nc : List (Nat × Nat)) (s : State) : Prop := ∀ i j, (i, j) ∈ nc → s.vm.assignable (D.1 i) (D.1 j) = false
theorem ab_srch (hpl : e.platform.magicAccessors = ({} : Platform).magicAccessors) (hown : s.vm.findClass own = some g.method.cls) (hTs : ∀ w ∈ Ts, va_Nw w s) (hKC : ab_KC D cl s) (hNC : ab_NCs D nc s) (hp11 : ∀ x n, my_p M x = some n → ab_p11 cl Ts own x n) {ce hp : Nat} {cell : Cell} (hcls : cell.cls = D.1 ce) (hobj : ∀ k, cell.vm ≠ .statics k) (hce : ∃ r, cl[ce]? = some r) :
    ∀ (hs : List (Nat × Nat × Nat × Nat)) (u : State), s.WarmedH u.vm → u.heap[a]? = some cell → ab_hd M nc g.pc ce hs = some hp → ∃ vm' : Vm, s.WarmedH vm' ∧ ∀ (Q : Handler → Pre) (E : CtlPost) (d : Bool) (acts : List Action), wp (findHandler.go g a (tableOf hs)) Q E e d acts u ↔ Q (.found hp) d acts (u.setVm vm') := by
  intro hs
  induction hs with
  | nil => intro u _ _ h; simp [ab_hd] at h
  | cons q r ih =>
    intro u hW hcell hh
    have et : tableOf (q :: r) = (⟨q.1, q.2.1, q.2.2.1, q.2.2.2⟩ : ExceptionTableEntry) :: tableOf r := rfl
    rw [et]
    unfold ab_hd at hh
    split at hh
    · rename_i hcov
      have hcv : covers (⟨q.1, q.2.1, q.2.2.1, q.2.2.2⟩ : ExceptionTableEntry) g.pc = true := by simp [covers, hcov.1, hcov.2]
      split at hh
      · rename_i cj _ _ hpx
        obtain ⟨hx0, r1, hr1, hl1⟩ := hp11 _ _ hpx
        obtain ⟨c, hfc, hcl⟩ := Cond.classLink_spec (args := #[]) hown (hTs _ hl1) e.platform hpl
        obtain ⟨hg1, hwarm, hready⟩ := State.classEntry (e := e) hW hcl
        generalize u.vm.noted g.method.cls q.2.2.2 (.cls c) = vm₁ at hg1 hwarm hready
        have hsz : vm₁.classes.size ≤ u.vm.classes.size := by
          have e1 := hwarm.alike.2.1
          have e2 := hW.alike.2.1
          omega
        obtain ⟨hKn, -⟩ := hKC cj r1 hr1
        have hcj : c = D.1 cj := Option.some.inj (hfc.symm.trans hKn.2.1)
        obtain ⟨rc, hrc⟩ := hce
        obtain ⟨hKc, -⟩ := hKC ce rc hrc
        obtain ⟨kc, hkc, -⟩ := hKc.2.2
        obtain ⟨kj, hkj, -⟩ := hKn.2.2
        obtain ⟨kc', hkc', -⟩ := hwarm.alike.2.2 _ _ hkc
        obtain ⟨kj', hkj', -⟩ := hwarm.alike.2.2 _ _ hkj
        have hasg : (u.setVm vm₁).vm.assignable cell.cls c = s.vm.assignable (D.1 ce) (D.1 cj) := by
          show vm₁.assignable cell.cls c = _
          rw [hwarm.alike.assignable, hcls, hcj]
        have one : ∀ (Q : Handler → Pre) (E : CtlPost) (d : Bool) (acts : List Action), wp (findHandler.go g a ((⟨q.1, q.2.1, q.2.2.1, q.2.2.2⟩ : ExceptionTableEntry) :: tableOf r)) Q E e d acts u ↔ if s.vm.assignable (D.1 ce) (D.1 cj) = true then Q (.found q.2.2.1) d acts (u.setVm vm₁) else wp (findHandler.go g a (tableOf r)) Q E e d acts (u.setVm vm₁) := by
          intro Q E d acts
          rw [ab_go_cold hcv hx0 hg1 hready hsz, W.findHandler_go_class (s := u.setVm vm₁) (c := c) (cell := cell) hcv hx0 hready hcell hobj ⟨kc', by rw [hcls]; exact hkc'⟩ ⟨kj', by rw [hcj]; exact hkj'⟩, hasg]
        split at hh
        · rename_i hcc
          subst hcc
          cases hh
          refine ⟨vm₁, hwarm, fun Q E d acts => ?_⟩
          rw [one, if_pos (va_assign hKc.2)]
        · split at hh
          · rename_i hin
            obtain ⟨vm2, hW2, h2⟩ := ih (u.setVm vm₁) hwarm hcell hh
            refine ⟨vm2, hW2, fun Q E d acts => ?_⟩
            rw [one, if_neg (by rw [hNC _ _ hin]; decide), h2]
            rfl
          · cases hh
      · cases hh
    · rename_i hcov
      obtain ⟨vm2, hW2, h2⟩ := ih u hW hcell hh
      refine ⟨vm2, hW2, fun Q E d acts => ?_⟩
      rw [W.findHandler_go_skip (by
        simp only [covers]
        rw [Bool.eq_false_iff]
        intro z
        apply hcov
        simpa using z), h2]
end AB6A
end
section
/-! throws of one's own: throw new E("text") -/
/-- a static field that holds a reference or null, in a cell below B -/
def ab_LS (B : Nat) (O f d : String) (s : State) (H : Heap) : Prop := ∃ (c : ClassId) (k : Class) (i : Nat) (fd : Field) (a : Nat) (cell : Cell) (v : Value), s.vm.findClass O = some c ∧ s.fieldFound? O f d = some (c, k, i, fd) ∧ fd.isStatic = true ∧ k.statics = some a ∧ H[a]? = some cell ∧ cell.vm.isStatics = true ∧ cell.cls = c ∧ fd.slot < cell.slots.size ∧ k.staticTypes[fd.slot]? = some fd.type ∧ a < B ∧ cell.slots[fd.slot]? = some v ∧ (v = .null ∨ ∃ x, v = .ref x)
theorem ab_LS.kept {B : Nat} {O f d : String} {s U : State} {H H1 : Heap} (h : ab_LS B O f d s H) (hvm : s.vm.Alike U.vm) (hk : ∀ q, q < H.size → ¬ B ≤ q → H1[q]? = H[q]?) : ab_LS B O f d U H1 := by
  obtain ⟨c, k, i, fd, a, cell, v, h1, h2, h3, h4, h5, h6, h7, h8, h9, h10, h11⟩ := h
  obtain ⟨k', hi', he⟩ := State.fieldFound?_setVm hvm h2
  exact ⟨c, k', i, fd, a, cell, v, by rw [hvm.findClass]; exact h1, hi', h3, by rw [he]; exact h4, (hk a (Array.getElem?_eq_some_iff.mp h5).1 (by omega)).trans h5, h6, h7, h8, by rw [he]; exact h9, h10, h11⟩
theorem ab_LS.lays {B : Nat} {O f d : String} {s : State} (h : ab_LS B O f d s s.heap) (A : Array Value) : (Cond.laysStatic O f d).before A s = true := by
  obtain ⟨c, k, i, fd, a, cell, v, h1, h2, h3, h4, h5, h6, h7, h8, h9, h10, h11, h12⟩ := h
  simp [Cond.before, Cond.holds, Cond.value, h1, h2, h3, h4, h5, h6, h7, h8, h9]
theorem ab_LS.isRef {B : Nat} {O f d : String} {s : State} (h : ab_LS B O f d s s.heap) (A : Array Value) : (Cond.isRef (.static O f d)).before A s = true := by
  obtain ⟨c, k, i, fd, a, cell, v, h1, h2, h3, h4, h5, h6, h7, h8, h9, h10, h11, h12⟩ := h
  have he : (Term.static O f d).eval A s none [] s = some v := by simp [Term.eval, State.fieldNamed?, h2, h3, h4, h5, h6, h11]
  simp only [Cond.before, Cond.holds, Cond.value, he]
  rcases h12 with e | ⟨x, e⟩ <;> simp [e]
theorem ab_LS.of {B : Nat} {O f d : String} {s : State} {A : Array Value} (h1 : (Cond.laysStatic O f d).before A s = true) (h2 : (Cond.isRef (.static O f d)).before A s = true) (hB : s.heap.size ≤ B) : ab_LS B O f d s s.heap := by
  obtain ⟨c, k, i, fd, a, cell, hc, hf, hst, hsta, hcell, hiss, hcls, hlt, hty⟩ := Cond.laysStatic_spec h1
  obtain ⟨v, hv, hr⟩ := Cond.isRef_spec h2
  have he : (Term.static O f d).eval A s none [] s = cell.slots[fd.slot]? := by simp [Term.eval, State.fieldNamed?, hf, hst, hsta, hcell, hiss]
  refine ⟨c, k, i, fd, a, cell, v, hc, hf, hst, hsta, hcell, hiss, hcls, hlt, hty, Nat.lt_of_lt_of_le (Array.getElem?_eq_some_iff.mp hcell).1 hB, he.symm.trans hv, ?_⟩
  cases v <;> first | (exact Or.inl rfl) | (exact Or.inr ⟨_, rfl⟩) | (simp [Value.isRef] at hr; done)
theorem ab_sb {T u : State} {fs : List Frame} {L : List Loc} {k n : Nat} (h : (T.setFrames fs).sameButNew u L k n) : T.sameButNew u L k n := by
  obtain ⟨h1, h2, h3, h4, h5, h6⟩ := h
  refine ⟨?_, h2, h3, h4, h5, h6⟩
  rw [State.setFrames_setFrames] at h1
  exact h1
/-- nothing that was there has changed -/
theorem ab_sb_heap {T u : State} {k n : Nat} (h : T.sameButNew u [] k n) {q : Nat} (hq : q < T.heap.size) : u.heap[q]? = T.heap[q]? := by
  obtain ⟨h1, h2, h3, h4, h5, h6⟩ := h
  obtain ⟨c', g1, g2, g3, g4⟩ := h6 q T.heap[q] (Array.getElem?_eq_getElem hq)
  rw [g1, Array.getElem?_eq_getElem hq]
  congr 1
  rw [g2]
  have e : c'.slots = T.heap[q].slots := by
    apply Array.ext_getElem?
    intro i
    exact g4 i (by simp)
  rw [e]
end
section
/-! more calls: a method of a class above the receiver's, on an old receiver, of the superclass by name -/
def ab_p5 (cl : List vw_C) (Ts : List Cond) (mt : List ab_M) (own : String) (x : Nat) (n : ab_N) : Prop := match n with
  | (20, j, cr, _) => ∃ (N : ab_M) (r : vw_C) (y y' : MethodName) (bs : ByteArray) (ml : Nat) (rt : Option FieldType), mt[j]? = some N ∧ cl[cr]? = some r ∧ Cond.methodLink own x y ∈ Ts ∧ Cond.instanceMethod y ∈ Ts ∧ Cond.code y bs ml rt ∈ Ts ∧ (parseMethodDescriptor y.desc).map (fun d => d.parameters.length) = some (my_n N) ∧ (y.cls ≠ "java/lang/invoke/MethodHandle" ∧ y.cls ≠ "java/lang/invoke/VarHandle") ∧ (Cond.selects r.1 y (my_y N) ∈ Ts ∨ (y = my_y N ∧ Cond.privateMethod y ∈ Ts)) ∧ y'.cls = y.cls ∧ Cond.selects r.1 y' y' ∈ Ts ∧ Cond.instanceMethod y' ∈ Ts
  | (21, j, _, _) => ∃ N : ab_M, mt[j]? = some N ∧ Cond.methodLink own x (my_y N) ∈ Ts ∧ Cond.sameMethod (my_y N).cls (my_y N).cls (my_y N).name (my_y N).desc ∈ Ts ∧ Cond.superclass own (my_y N).cls ∈ Ts
  | _ => True
section AB9
variable {p : Program} {l : Launch} {e : Env} {R : Room} {s : State} {m : MethodId} {args : Array Value} {below : List Frame} {meth : Method} {c : Code} {T : State} {H : Heap} {locs : List Loc} {cells slots : Nat} {Q : State → Prop}
variable {B n0 z0 NC NS pc len : Nat} {od : Nat → Nat} {h h' : ab_H} {D : va_G} {dA : Nat → ClassId} {cl : List vw_C} {M N : ab_M} {i : Instr} {S S' : List Value} {ls : Array Slot} {cc : ByteArray} {Ts : List Cond} {mt : List ab_M} {pl : Nat → Option ab_N} {own : String} {oo : Nat → Option (Nat × List Value)}
theorem ab_stk {B : Nat} {od : Nat → Nat} {S r : List Value} {n : Nat} {v : Value} (hdr : S.drop n = v :: r) : S.map (ab_v B od) = (((S.take n).reverse).map (ab_v B od)).reverse ++ ab_v B od v :: r.map (ab_v B od) := by
  rw [← List.map_reverse, List.reverse_reverse]
  have z : S = S.take n ++ (v :: r) := by rw [← hdr, List.take_append_drop]
  conv => lhs; rw [z]
  rw [List.map_append]
  rfl
set_option maxHeartbeats 4000000 in
theorem ab_cs5_ok (X : Stand p l e R s m args below meth c T locs cells slots) (hx : p.tables.exec = Jvm.exec) (hb : c.code = cc) (hown : s.vm.findClass own = some m.cls) (hTs : ∀ w ∈ Ts, va_Nw w s) (hKC : ab_KC D cl s) (hOO : ab_OO B od cl oo s s.heap) (hw : ab_mw Ts N) (hpm : ∀ x n, pl x = some n → ab_pm Ts mt own x n) (hp5 : ∀ x n, pl x = some n → ab_p5 cl Ts mt own x n)
    (hdg : decode cc pc = .ok (i, len)) (hlen : ab_len i = 0 ∨ len = ab_len i) (hR : ab_R B od D dA cl NC NS s.heap n0 z0 h T.heap locs cells slots) {j : Nat} {as r : List Value} (hs : ab_cs5 cl oo mt pl i S h = some (j, as, r)) (hN : mt[j]? = some N) :
    len = 3 ∧ ∃ (vm₁ : Vm) (mk : MethodId) (methk : Method) (ck : Code) (kk : Class), ab_mf N s mk methk ck kk ∧ s.WarmedH vm₁ ∧ Stand p l e R s m args below meth c (T.setVm vm₁) locs cells slots ∧
      ∀ target, (∀ acts, Steps p.tables e below (doInvoke e ((T.setVm vm₁).setTop (F0 m pc ls (r.map (ab_v B od)))) acts mk (as.map (ab_v B od)).toArray).1 target) → Steps p.tables e below (T.setTop (F0 m pc ls (S.map (ab_v B od)))) target := by
  subst hb
  obtain ⟨mk, methk, ck, kk, hmf⟩ := ab_mf_of hw hTs
  have hmf' := hmf
  obtain ⟨f1, f2, f3, f4, f5, f6, f7, f8, f9, f10, f11, f12, f13⟩ := hmf
  obtain ⟨w1, w2, w3, w4, w5, w6, w7⟩ := hw
  have selOf : ∀ {C : String} {cell : Cell}, s.vm.findClass C = some cell.cls → Cond.selects C (my_y N) (my_y N) ∈ Ts → selectMethod e.platform s.vm cell.cls mk = .method mk ∧ kk.isInterface = false := fun {C cell} hcls q => by
    obtain ⟨c2, r2, m2, q1', q2', q3', q4', kP, hkP, hkPi⟩ := Cond.selects_spec (hTs _ q)
    cases hcls.symm.trans q1'
    cases (State.methodFound?_of_named f1 w4).symm.trans q2'
    cases f1.symm.trans q3'
    cases f10.symm.trans hkP
    exact ⟨by rw [Launch.admits_selectMethod X.admits]; exact q4', hkPi⟩
  unfold ab_cs5 at hs
  split at hs
  · rename_i x
    have hl : len = 3 := by rcases hlen with q | q; exact absurd q (by simp [ab_len]); exact q
    subst hl
    refine ⟨rfl, ?_⟩
    split at hs
    · rename_i j' cr v hp
      split at hs
      · rename_i N' hN'
        split at hs
        · rename_i q0 r0 hdr
          split at hs
          · rename_i ci fs hq
            split at hs
            · rename_i hc
              obtain ⟨hc1, hc2, rfl⟩ := hc
              cases hs
              cases hN.symm.trans hN'
              obtain ⟨N2, r2, y, y', bs, ml, rt, hN2, hr2, hl2, hiy, hcy, hpy, wy, hsel2, hy', hs', hi'⟩ := hp5 _ _ hp
              cases hN.symm.trans hN2
              obtain ⟨mk', meth', g1, g2, g3, g4⟩ := Cond.instanceMethod_spec (hTs _ (w7 hc1))
              cases f1.symm.trans g1
              cases f2.symm.trans g2
              obtain ⟨r1, hr1, cell, q1, q2, q3, q4⟩ := hR.1 q0 _ hq
              have er : r1 = r2 := Option.some.inj (hr1.symm.trans hr2)
              subst er
              have hcls : s.vm.findClass r1.1 = some cell.cls := by rw [q2]; exact (hKC ci r1 hr1).1.2.1
              have hobj : ∀ z, cell.vm ≠ .statics z := fun z hz => by rw [q3] at hz; cases hz
              obtain ⟨rk, methR, u1, u2, u3, -⟩ := Cond.instanceMethod_spec (hTs _ hiy)
              obtain ⟨methR', cR, v1, -, -, -, -, -, -, v8⟩ := Cond.code_spec u1 (hTs _ hcy)
              cases u2.symm.trans v1
              obtain ⟨kr, hkr, -⟩ := className_of_methodNamed u1
              have hlenA : (((S.take (my_n N)).reverse).map (ab_v B od)).length = methR.sig.parameters.length := by
                rw [v8] at hpy
                have hpy' : methR.sig.parameters.length = my_n N := by simpa using hpy
                rw [hpy']; simp; omega
              have hniR : kr.isInterface = false := by
                obtain ⟨mq, methq, gq1, gq2, -, -⟩ := Cond.instanceMethod_spec (hTs _ hi')
                obtain ⟨c2, r2, m2, q1', q2', q3', q4', kP, hkP, hkPi⟩ := Cond.selects_spec (hTs _ hs')
                cases gq1.symm.trans q3'
                have e2 : mq.cls = rk.cls := by
                  have z1 := findClass_of_methodNamed gq1
                  have z2 := findClass_of_methodNamed u1
                  rw [hy'] at z1
                  exact Option.some.inj (z1.symm.trans z2)
                rw [e2] at hkP
                cases hkr.symm.trans hkP
                exact hkPi
              have hboth : selectMethod e.platform s.vm cell.cls rk = .method mk ∧ kk.isInterface = false := by
                rcases hsel2 with hsel2 | ⟨ey, hpv⟩
                · obtain ⟨c2, r2, m2, q1', q2', q3', q4', kP, hkP, hkPi⟩ := Cond.selects_spec (hTs _ hsel2)
                  cases hcls.symm.trans q1'
                  cases (State.methodFound?_of_named u1 wy).symm.trans q2'
                  cases f1.symm.trans q3'
                  cases f10.symm.trans hkP
                  exact ⟨by rw [Launch.admits_selectMethod X.admits]; exact q4', hkPi⟩
                · subst ey
                  cases f1.symm.trans u1
                  cases f10.symm.trans hkr
                  refine ⟨?_, hniR⟩
                  rw [Launch.admits_selectMethod X.admits]
                  exact selectMethod_private f2 (Cond.privateMethod_at (va_Nw.use (A := args) rfl (hTs _ hpv)) mk methk f1 f2)
              obtain ⟨hsel, hni⟩ := hboth
              obtain ⟨vm₁, X₁, st⟩ := X.invokevirtual hx hown (va_Nw.use rfl (hTs _ hl2)) u1 u2 u3 hkr hniR wy (a := B + q0) (cell := cell) q1 hobj hsel f2 g4 f10 hni (g := F0 m pc ls (S.map (ab_v B od))) rfl hlenA (ab_stk hdr) hdg
              exact ⟨vm₁, mk, methk, ck, kk, hmf', X₁.warmed, X₁, st⟩
            · cases hs
          · cases hs
        · cases hs
      · cases hs
    · rename_i j' nst v hp
      split at hs
      · rename_i N' hN'
        split at hs
        · rename_i w0 r0 hdr
          split at hs
          · rename_i ci fs hq
            split at hs
            · rename_i hc
              obtain ⟨hc1, hc2, hc3, hc4⟩ := hc
              cases hs
              cases hN.symm.trans hN'
              obtain ⟨N2, hN2, hl2⟩ := hpm _ _ hp
              cases hN.symm.trans hN2
              obtain ⟨mk', meth', g1, g2, g3, g4⟩ := Cond.instanceMethod_spec (hTs _ (w7 hc1))
              cases f1.symm.trans g1
              cases f2.symm.trans g2
              obtain ⟨r1, hr1, hO, -⟩ := hOO _ _ _ hq
              obtain ⟨cell, o1, o2, o3, -⟩ := hO.kept hR.2.2.1.2.1
              have hcn : r1.1 = (my_y N).cls := by rw [hr1] at hc3; simpa using hc3
              have hcls : s.vm.findClass (my_y N).cls = some cell.cls := by rw [← hcn]; exact o3
              have hobj : ∀ z, cell.vm ≠ .statics z := fun z hz => by rw [hz] at o2; cases o2
              have hlenA : (((S.take (my_n N)).reverse).map (ab_v B od)).length = methk.sig.parameters.length := by
                rw [f9]; simp; omega
              rcases hl2 with ⟨h0, q⟩ | ⟨h0, host, q⟩ | ⟨-, q, qs⟩ | ⟨h0, qs, host, q⟩
              · rw [h0] at hc4; cases hc4
              · rw [h0] at hc4; cases hc4
              · obtain ⟨hsel, hni⟩ := selOf hcls qs
                obtain ⟨vm₁, X₁, st⟩ := X.invokevirtual hx hown (va_Nw.use rfl (hTs _ q)) f1 f2 g3 f10 hni w4 (a := od w0.toNat) (cell := cell) o1 hobj hsel f2 g4 f10 hni (g := F0 m pc ls (S.map (ab_v B od))) rfl hlenA (ab_stk hdr) hdg
                exact ⟨vm₁, mk, methk, ck, kk, hmf', X₁.warmed, X₁, st⟩
              · rw [h0] at hc4; cases hc4
            · cases hs
          · cases hs
        · cases hs
      · cases hs
    · cases hs
  · rename_i x
    have hl : len = 3 := by rcases hlen with q | q; exact absurd q (by simp [ab_len]); exact q
    subst hl
    refine ⟨rfl, ?_⟩
    split at hs
    · rename_i j' cr v hp
      split at hs
      · rename_i N' hN'
        split at hs
        · rename_i q0 r0 hdr
          split at hs
          · rename_i ci fs hq
            split at hs
            · rename_i hc
              obtain ⟨hc1, hc2, hc3⟩ := hc
              cases hs
              cases hN.symm.trans hN'
              obtain ⟨N2, hN2, hl2, hsame, hsup⟩ := hp5 _ _ hp
              cases hN.symm.trans hN2
              obtain ⟨mk', meth', g1, g2, g3, g4⟩ := Cond.instanceMethod_spec (hTs _ (w7 hc1))
              cases f1.symm.trans g1
              cases f2.symm.trans g2
              obtain ⟨r1, hr1, cell, q1, q2, q3, q4⟩ := hR.1 q0 _ hq
              obtain ⟨kB, hkB, -⟩ := Vm.findClass_spec (hKC ci r1 hr1).1.2.1
              obtain ⟨ps, dk, kp, hps, hdk, hkp, hsuper, -, -, hnid⟩ := Cond.superclass_spec hown (va_Nw.use (A := args) rfl (hTs _ hsup))
              have hpmk : ps = mk.cls := Option.some.inj (hps.symm.trans (findClass_of_methodNamed f1))
              have hsub : s.vm.isSubclass ps mk.cls = true := by rw [hpmk]; simp [Vm.isSubclass, Vm.isSubclassAux]
              have hlenA : (((S.take (my_n N)).reverse).map (ab_v B od)).length = methk.sig.parameters.length := by
                rw [f9]; simp; omega
              obtain ⟨vm₁, X₁, st⟩ := X.invokespecialUp hx hown (va_Nw.use rfl (hTs _ hl2)) (va_Nw.use rfl (hTs _ hsame)) f1 f2 g3 g4 hc3 hdk hnid hps hsuper hsub (a := B + q0) (cell := cell) q1 (fun z hz => by rw [q3] at hz; cases hz) (by rw [q2]; exact hkB) (g := F0 m pc ls (S.map (ab_v B od))) rfl (argsL := ((S.take (my_n N)).reverse).map (ab_v B od)) (rest := r.map (ab_v B od)) hlenA (ab_stk hdr) hdg
              exact ⟨vm₁, mk, methk, ck, kk, hmf', X₁.warmed, X₁, fun target hh => st target (hh [])⟩
            · cases hs
          · cases hs
        · cases hs
      · cases hs
    · cases hs
  · cases hs
theorem ab_call_ok (X : Stand p l e R s m args below meth c T locs cells slots) (hx : p.tables.exec = Jvm.exec) (hb : c.code = cc) (hown : s.vm.findClass own = some m.cls) (hTs : ∀ w ∈ Ts, va_Nw w s) (hKC : ab_KC D cl s) (hOO : ab_OO B od cl oo s s.heap) (hw : ab_mw Ts N) (hpm : ∀ x n, pl x = some n → ab_pm Ts mt own x n) (hp5 : ∀ x n, pl x = some n → ab_p5 cl Ts mt own x n)
    (hdg : decode cc pc = .ok (i, len)) (hlen : ab_len i = 0 ∨ len = ab_len i) (hR : ab_R B od D dA cl NC NS s.heap n0 z0 h T.heap locs cells slots) {j : Nat} {as r : List Value} (hs : ab_call cl oo mt pl i S h = some (j, as, r)) (hN : mt[j]? = some N) :
    len = 3 ∧ ∃ (vm₁ : Vm) (mk : MethodId) (methk : Method) (ck : Code) (kk : Class), ab_mf N s mk methk ck kk ∧ s.WarmedH vm₁ ∧ Stand p l e R s m args below meth c (T.setVm vm₁) locs cells slots ∧
      ∀ target, (∀ acts, Steps p.tables e below (doInvoke e ((T.setVm vm₁).setTop (F0 m pc ls (r.map (ab_v B od)))) acts mk (as.map (ab_v B od)).toArray).1 target) → Steps p.tables e below (T.setTop (F0 m pc ls (S.map (ab_v B od)))) target := by
  unfold ab_call at hs
  split at hs
  · rename_i z hz
    cases hs
    exact ab_cs_ok X hx hb hown hTs hKC hw hpm hdg hlen hR hz hN
  · exact ab_cs5_ok X hx hb hown hTs hKC hOO hw hpm hp5 hdg hlen hR hs hN
end AB9
end
section
/-- what holds of a state: the words, the classes, the arrays' classes, the constants -/
def ab_F (D : va_G) (dA : Nat → ClassId) (cl : List vw_C) (aty : List FieldType) (od : Nat → Nat) (Ts : List Cond) (nc : List (Nat × Nat)) (mt : List ab_M) (s : State) : Prop :=
  (∀ w ∈ Ts, va_Nw w s) ∧ ab_KC D cl s ∧ ab_KA dA aty s ∧ ab_NCs D nc s ∧ (∀ (t : Nat) (C : String), aty[t]? = some (.object C) → va_AO C s) ∧ ∀ M ∈ mt, ∀ x a b w, my_p M x = some (7, a, b, .float w) → ∃ tx : String, vk_R (my_y M).cls x tx (od w.toNat) s
def ab_good (w : Cond) : Prop := w.onTables = true ∧ (w.keepsFace = true ∨ ∃ (a : String) (b : Nat) (c d e f : String), w = .fieldLinkNest a b c d e f)
theorem ab_F.warm {D : va_G} {dA : Nat → ClassId} {cl : List vw_C} {aty : List FieldType} {od : Nat → Nat} {Ts : List Cond} {nc : List (Nat × Nat)} {mt : List ab_M} {s U : State} (hg : ∀ w ∈ Ts, ab_good w) (hu : ∀ (ci : Nat) (r : vw_C), cl[ci]? = some r → ∀ w ∈ u_ws r.1 r.2.1 r.2.2, w ∈ Ts) (hW : s.WarmedH U.vm) (h : ab_F D dA cl aty od Ts nc mt s) : ab_F D dA cl aty od Ts nc mt U := by
  obtain ⟨h1, h2, h3, h5, h6, h4⟩ := h
  have g1 : ∀ w ∈ Ts, ∀ A, w.before A U = true := fun w hw A => by
    obtain ⟨k1, k2⟩ := hg w hw
    rcases k2 with k2 | ⟨a, b, c, d, e, f, rfl⟩
    · exact va_tabs k1 (rfl : (s.setVm U.vm).vm = U.vm) (Cond.before_shiftedFace (args := #[]) (State.Shifted.of_warmed hW) w k2 (h1 w hw))
    · exact va_tabs k1 (rfl : (s.setVm U.vm).vm = U.vm) (Cond.fieldLinkNest_warmed (args := #[]) hW (h1 _ hw))
  refine ⟨fun w hw => g1 w hw #[], fun ci r hr => ⟨u_Kn_moved hW.alike (h2 ci r hr).1, fun A w hw => g1 w (hu ci r hr w hw) A⟩, fun t ty ht => ⟨arrOfT_moved hW.alike (h3 t ty ht).1, (h3 t ty ht).2.1.moved hW.alike, fun hp => word_at (args := #[]) hW (Or.inr ⟨ty, rfl⟩) ((h3 t ty ht).2.2 hp)⟩, fun i j hij => by rw [hW.alike.assignable]; exact h5 i j hij, fun t C ht => (h6 t C ht).moved hW.alike, fun M hM x a b w hp => ?_⟩
  obtain ⟨tx, q⟩ := h4 M hM x a b w hp
  exact ⟨tx, q.warm hW⟩
theorem ab_OO.kept {B : Nat} {od : Nat → Nat} {cl : List vw_C} {oo : Nat → Option (Nat × List Value)} {s U : State} {H H1 : Heap} (h : ab_OO B od cl oo s H) (hvm : s.vm.Alike U.vm) (hk : ∀ q, q < H.size → ¬ B ≤ q → H1[q]? = H[q]?) : ab_OO B od cl oo U H1 := by
  intro w ci fs hw
  obtain ⟨r, g1, g2, g3⟩ := h w ci fs hw
  exact ⟨r, g1, (g2.moved hvm).kept hk, fun b v hb => ⟨(g3 b v hb).1, ((g3 b v hb).2.moved hvm).kept hk⟩⟩
theorem ab_SZ.kept {B : Nat} {od : Nat → Nat} {Ts : List Cond} {own : String} {pl : Nat → Option ab_N} {s U : State} {H H1 : Heap} (h : ab_SZ B od Ts own pl s H) (hvm : s.vm.Alike U.vm) (hk : ∀ q, q < H.size → ¬ B ≤ q → H1[q]? = H[q]?) : ab_SZ B od Ts own pl U H1 := by
  intro x a b v hx
  obtain ⟨C, n, d, g1, g2⟩ := h x a b v hx
  exact ⟨C, n, d, (g1.moved hvm).kept hk, g2⟩
theorem ab_OA.kept {B : Nat} {od : Nat → Nat} {oa : Nat → Option (FieldType × Nat × (Nat → Value))} {s U : State} {H H1 : Heap} (h : ab_OA B od oa s H) (hvm : s.vm.Alike U.vm) (hk : ∀ q, q < H.size → ¬ B ≤ q → H1[q]? = H[q]?) : ab_OA B od oa U H1 := by
  intro w t n f hw
  obtain ⟨g1, cell, g2, g3, g4⟩ := h w t n f hw
  exact ⟨g1, cell, (hk _ (Array.getElem?_eq_some_iff.mp g2).1 (by omega)).trans g2, State.isArrayOf_alike hvm g3, g4⟩
/-- what is fixed of the program -/
def ab_SF (cl : List vw_C) (ct : Nat → Nat → FieldType) (cd : Nat → List Value) (aty : List FieldType) (sb : List (Nat × Nat)) (Ts : List Cond) (mt : List ab_M) : Prop :=
  (∀ t ci, (t, ci) ∈ sb → ∃ (E : String) (r : vw_C), aty[t]? = some (.object E) ∧ cl[ci]? = some r ∧ (r.1 = E ∨ Cond.castable r.1 E ∈ Ts)) ∧ ab_CS cl ct cd ∧ (∀ w ∈ Ts, ab_good w) ∧ (∀ (ci : Nat) (r : vw_C), cl[ci]? = some r → ∀ w ∈ u_ws r.1 r.2.1 r.2.2, w ∈ Ts) ∧ (∀ j N, mt[j]? = some N → j ≠ 0 → ab_mw Ts N) ∧ ∀ M ∈ mt, ab_ck M ∧ ∀ x n, my_p M x = some n → ab_pe cl Ts (my_y M).cls x n ∧ ab_pm Ts mt (my_y M).cls x n ∧ ab_p11 cl Ts (my_y M).cls x n ∧ ab_p4 cl aty Ts (my_y M).cls x n ∧ ab_p5 cl Ts mt (my_y M).cls x n ∧ ab_q5 aty Ts (my_y M).cls x n
/-- what holds of an activation -/
def ab_A (D : va_G) (dA : Nat → ClassId) (cl : List vw_C) (aty : List FieldType) (oa : Nat → Option (FieldType × Nat × (Nat → Value))) (oo : Nat → Option (Nat × List Value)) (od : Nat → Nat) (Ts : List Cond) (nc : List (Nat × Nat)) (mt : List ab_M) (B NC NS : Nat) (M : ab_M) (d : Nat) (R : Room) (s : State) (m : MethodId) (meth : Method) (c : Code) (n0 z0 : Nat) : Prop :=
  c.code = my_b M ∧ c.maxLocals = my_l M ∧ meth.sig.returnType = my_r M ∧ meth.locks = false ∧ s.vm.findClass (my_y M).cls = some m.cls ∧ c.exceptionTable.toList = tableOf (my_h M) ∧ meth.name = (my_y M).name ∧ ab_F D dA cl aty od Ts nc mt s ∧ ab_OA B od oa s s.heap ∧ NC ≤ n0 + R.cells ∧ NS ≤ z0 + R.slots ∧ d + 8 ≤ R.frames ∧ 64 * d + 512 ≤ R.locals ∧ ab_LS B Bundle.tN "UNASSIGNED_STACK" Bundle.steD s s.heap ∧ ab_LS B Bundle.tN "SUPPRESSED_SENTINEL" Bundle.listD s s.heap ∧ ab_OO B od cl oo s s.heap ∧ (∀ M ∈ mt, ab_SZ B od Ts (my_y M).cls (my_p M) s s.heap) ∧ ∀ M ∈ mt, ab_MI od aty Ts (my_y M).cls (my_p M) s
theorem ab_args_map (B : Nat) (od : Nat → Nat) (as : List Value) : ∀ i, lv_args i (as.map (ab_v B od)) = ab_m B od (lv_args i as) := by
  induction as with
  | nil => intro i; rfl
  | cons v vs ih =>
    intro i
    show (i, ab_v B od v) :: lv_args (if (ab_v B od v).category = 2 then i + 2 else i + 1) (vs.map (ab_v B od)) = _
    rw [ab_v_cat, ih]
    rfl
theorem ab_sl_map (B : Nat) (od : Nat → Nat) (as : List Value) : (lg_sl (as.map (ab_v B od))).length = (lg_sl as).length := by
  induction as with
  | nil => rfl
  | cons v vs ih =>
    simp only [lg_sl, List.map_cons, List.flatMap_cons, List.length_append] at ih ⊢
    rw [ab_v_cat, ih]
    by_cases hc : v.category = 2 <;> simp [hc]
theorem ab_wt_map (B : Nat) (od : Nat → Nat) (r : List Value) : ((r.map (ab_v B od)).map fun v => v.category).sum = ab_wt r := by
  unfold ab_wt
  rw [List.map_map]
  congr 1
  apply List.map_congr_left
  intro v _
  exact ab_v_cat B od v
section AB7
variable {p : Program} {l : Launch} {e : Env} {B NC NS : Nat} {od : Nat → Nat} {D : va_G} {dA : Nat → ClassId} {cl : List vw_C} {ct : Nat → Nat → FieldType} {cd : Nat → List Value} {aty : List FieldType} {oa : Nat → Option (FieldType × Nat × (Nat → Value))} {oo : Nat → Option (Nat × List Value)} {sb : List (Nat × Nat)} {Ts : List Cond} {nc : List (Nat × Nat)} {mt : List ab_M}
/-- a throw of one's own -/
def ab_TH (p : Program) (l : Launch) (e : Env) (B NC NS : Nat) (od : Nat → Nat) (D : va_G) (dA : Nat → ClassId) (cl : List vw_C) (aty : List FieldType) (oa : Nat → Option (FieldType × Nat × (Nat → Value))) (oo : Nat → Option (Nat × List Value)) (Ts : List Cond) (nc : List (Nat × Nat)) (mt : List ab_M) : Prop :=
  ∀ (M : ab_M) (d : Nat) (R : Room) (s : State) (m : MethodId) (args : Array Value) (below : List Frame) (meth : Method) (c : Code) (H : Heap) (locs : List Loc) (cells slots n0 z0 pc ce x1 x2 x3 : Nat) (ls : Array Slot) (h : ab_H), M ∈ mt → ab_A D dA cl aty oa oo od Ts nc mt B NC NS M d R s m meth c n0 z0 → ls.size = my_l M → ab_th M pc = some (ce, x1, x2, x3) → h.length + 1 ≤ NC → ab_sz h + 6 ≤ NS → ab_R B od D dA cl NC NS s.heap n0 z0 h H locs cells slots →
    W p l e R s m args below meth c H locs cells slots (ab_Q below s B od D dA cl NC NS n0 z0 (.inr (ce, h.length)) (h ++ [.inr (ce, List.replicate 6 .null)])) (F0 m pc ls [])
def ab_TH0 (p : Program) (l : Launch) (e : Env) (B NC NS : Nat) (od : Nat → Nat) (D : va_G) (dA : Nat → ClassId) (cl : List vw_C) (aty : List FieldType) (oa : Nat → Option (FieldType × Nat × (Nat → Value))) (oo : Nat → Option (Nat × List Value)) (Ts : List Cond) (nc : List (Nat × Nat)) (mt : List ab_M) : Prop :=
  ∀ (M : ab_M) (d : Nat) (R : Room) (s : State) (m : MethodId) (args : Array Value) (below : List Frame) (meth : Method) (c : Code) (H : Heap) (locs : List Loc) (cells slots n0 z0 pc ce x1 x3 : Nat) (ls : Array Slot) (h : ab_H), M ∈ mt → ab_A D dA cl aty oa oo od Ts nc mt B NC NS M d R s m meth c n0 z0 → ls.size = my_l M → ab_th0 M pc = some (ce, x1, x3) → h.length + 1 ≤ NC → ab_sz h + 6 ≤ NS → ab_R B od D dA cl NC NS s.heap n0 z0 h H locs cells slots →
    W p l e R s m args below meth c H locs cells slots (ab_Q below s B od D dA cl NC NS n0 z0 (.inr (ce, h.length)) (h ++ [.inr (ce, List.replicate 6 .null)])) (F0 m pc ls [])
set_option maxHeartbeats 8000000 in
theorem ab_sound (hx : p.tables.exec = Jvm.exec) (hSF : ab_SF cl ct cd aty sb Ts mt) (hinj : ∀ w w', (oo w).isSome = true → (oo w').isSome = true → od w = od w' → w = w') (hTH : ab_TH p l e B NC NS od D dA cl aty oa oo Ts nc mt) (hTH0 : ab_TH0 p l e B NC NS od D dA cl aty oa oo Ts nc mt) :
    ∀ (n d mi pc : Nat) (L : ab_L) (S : List Value) (h h' : ab_H) (o : ab_O) (M : ab_M), mt[mi]? = some M → ab_run cl ct cd aty oa oo sb NC NS nc mt n d mi pc L S h = some (o, h') →
    ∀ (R : Room) (s : State) (m : MethodId) (args : Array Value) (below : List Frame) (meth : Method) (c : Code) (H : Heap) (locs : List Loc) (cells slots n0 z0 : Nat) (ls : Array Slot), ab_A D dA cl aty oa oo od Ts nc mt B NC NS M d R s m meth c n0 z0 → ab_R B od D dA cl NC NS s.heap n0 z0 h H locs cells slots → lv_has ls (my_l M) (ab_m B od L) →
    W p l e R s m args below meth c H locs cells slots (ab_Q below s B od D dA cl NC NS n0 z0 o h') (F0 m pc ls (S.map (ab_v B od))) := by
  intro n
  induction n with
  | zero =>
    intro d mi pc L S h h' o M hM hs
    simp [ab_run] at hs
  | succ n ih =>
    intro d mi pc L S h h' o M hM hs R s m args below meth c H locs cells slots n0 z0 ls hA hR hl
    have hMm := List.mem_of_getElem? hM
    obtain ⟨a1, a2, a3, a4, a5, a6, a7, a8, a9, a10, a11, a12, a13, als1, als2, aOO, aSZ, aMI⟩ := id hA
    obtain ⟨hsb, hCS, hgood, hus, hmws, hms⟩ := id hSF
    obtain ⟨hck, hpl⟩ := hms M hMm
    obtain ⟨hTs, hKC, hKA, hNCs, hAO, hST⟩ := id a8
    rw [ab_run, hM] at hs
    dsimp only at hs
    split at hs
    · cases hs
    · rename_i i len tg hfe
      obtain ⟨hdg, hlen, htg⟩ := ab_fe_ok hck hfe
      split at hs
      · rename_i pc' L' S' hs1
        exact ab_s1_ok hx a1 hdg hlen htg hs1 hl (fun ls' hl' => ih d mi pc' L' S' h h' o M hM hs R s m args below meth c H locs cells slots n0 z0 ls' hA hR hl')
      · split at hs
        · rename_i pc' S' h2 hs2
          exact ab_s2_ok hx a1 a5 hTs hKC hCS hKA a9 (fun x n hp => (hpl x n hp).1) (hST M hMm) (fun hi => by rw [a7]; simpa using hi) a10 a11 hdg hlen hs2 hR (fun H' locs' cells' slots' hR' => ih d mi pc' L S' h2 h' o M hM hs R s m args below meth c H' locs' cells' slots' n0 z0 ls hA hR' hl)
        · split at hs
          · rename_i v hs3
            cases hs
            exact ab_rt_ok hx a1 a3 a4 hdg hlen hs3 hR
          · split at hs
            · rename_i pc' S' hs4
              exact ab_sw_ok hx a1 hdg hs4 (ih d mi pc' L S' h h' o M hM hs R s m args below meth c H locs cells slots n0 z0 ls hA hR hl)
            · split at hs
              · rename_i S' hs5
                exact ab_ob_ok hx a1 a5 (hl.1.trans a2.symm) (by omega) (by omega) (fun x a b v hp => by have q := (hpl x _ hp).2.1; exact ⟨hTs _ q.1, hTs _ q.2.1, hTs _ q.2.2⟩) hdg hlen hs5 (ih d mi (pc + 3) L S' h h' o M hM hs R s m args below meth c H locs cells slots n0 z0 ls hA hR hl)
              · split at hs
                · rename_i j as r hcs
                  split at hs
                  · rename_i d' N hN
                    split at hs
                    · rename_i hc
                      obtain ⟨hc1, hc2, hc3⟩ := hc
                      intro T hT X
                      subst hT
                      obtain ⟨hl3, vm₁, mk, methk, ck, kk, hmf, hW₁, X₁, st⟩ := ab_call_ok (ls := ls) X hx a1 a5 hTs hKC aOO (hmws j N hN hc3) (fun x n hp => (hpl x n hp).2.1) (fun x n hp => (hpl x n hp).2.2.2.2.1) hdg hlen hR hcs hN
                      subst hl3
                      obtain ⟨f1, f2, f3, f4, f5, f6, f7, f8, f9, f10, f11, f12, f13⟩ := hmf
                      have hRT : ab_R B od D dA cl NC NS s.heap n0 z0 h (T.setVm vm₁).heap locs cells slots := hR
                      obtain ⟨b1, b2, b3, b4, b5, b6, b7⟩ := id hR
                      have hmk : (T.setVm vm₁).vm.method? mk = some methk := by
                        show vm₁.method? mk = some methk
                        rw [hW₁.alike.method?]; exact f2
                      have hpk : (T.setVm vm₁).plainMethod mk := State.plainMethod.of_named (s := T.setVm vm₁) (hmws j N hN hc3).2.2.1 (X₁.named f1) hmk
                      have hF' : ab_F D dA cl aty od Ts nc mt ((T.setVm vm₁).calling (F0 m pc ls (r.map (ab_v B od))) mk (as.map (ab_v B od)).toArray) := a8.warm hgood hus hW₁
                      have hA' : ab_A D dA cl aty oa oo od Ts nc mt B NC NS N d' { frames := R.frames - 1, cells := R.cells - cells, slots := R.slots - slots, locals := R.locals - 64 } ((T.setVm vm₁).calling (F0 m pc ls (r.map (ab_v B od))) mk (as.map (ab_v B od)).toArray) mk methk ck h.length (ab_sz h) := by
                        refine ⟨f4, f5, f6, f7, ?_, f8, f13, hF', ?_, ?_, ?_, ?_, ?_, als1.kept hW₁.alike b3.2.1, als2.kept hW₁.alike b3.2.1, aOO.kept hW₁.alike b3.2.1, fun M' hM' => (aSZ M' hM').kept hW₁.alike b3.2.1, fun M' hM' => (aMI M' hM').moved hW₁.alike⟩
                        · show vm₁.findClass (my_y N).cls = some mk.cls
                          rw [hW₁.alike.findClass]
                          exact findClass_of_methodNamed f1
                        · exact a9.kept hW₁.alike b3.2.1
                        · show NC ≤ h.length + (R.cells - cells); omega
                        · show NS ≤ ab_sz h + (R.slots - slots); omega
                        · show d' + 8 ≤ R.frames - 1; omega
                        · show 64 * d' + 512 ≤ R.locals - 64; omega
                      have hR0 : ab_R B od D dA cl NC NS T.heap h.length (ab_sz h) h T.heap [] 0 0 := ⟨b1, b2, va_S.rf, rfl, rfl, b6, b7⟩
                      have hl0 := lv_entry (as.map (ab_v B od)) (n := my_l N) (by rw [ab_sl_map]; exact hc2)
                      rw [ab_args_map] at hl0
                      have hsz : (F0 m pc ls (r.map (ab_v B od))).locals.size = c.maxLocals := hl.1.trans a2.symm
                      have hroom : 2 * (F0 m pc ls (r.map (ab_v B od))).monitorRoom + (((F0 m pc ls (r.map (ab_v B od))).stack).map fun v => v.category).sum + (ck.maxLocals + 11) + (R.locals - 64) ≤ R.locals := by
                        have e1 : (F0 m pc ls (r.map (ab_v B od))).monitorRoom = 0 := rfl
                        have e2 : (((F0 m pc ls (r.map (ab_v B od))).stack).map fun v => v.category).sum = ab_wt r := ab_wt_map B od r
                        rw [e1, e2, f5]
                        omega
                      have call : ∀ (o2 : ab_O) (h2 : ab_H), ab_run cl ct cd aty oa oo sb NC NS nc mt n d' j 0 (lv_args 0 as) [] h = some (o2, h2) → ∃ (T' : State) (locs' : List Loc) (cells' slots' : Nat), Stand p l e R s m args below meth c T' locs' cells' slots' ∧ ab_R B od D dA cl NC NS s.heap n0 z0 h2 T'.heap locs' cells' slots' ∧ ∀ acts, Steps p.tables e below (doInvoke e ((T.setVm vm₁).setTop (F0 m pc ls (r.map (ab_v B od)))) acts mk (as.map (ab_v B od)).toArray).1 (ab_nx B od T' (F0 m pc ls (r.map (ab_v B od))) 3 o2) := fun o2 h2 hrun =>
                        ab_into (o := o2) (h' := h2) X₁ hRT (g := F0 m pc ls (r.map (ab_v B od))) rfl hsz (by rw [a1]; exact hdg) (R' := { frames := R.frames - 1, cells := R.cells - cells, slots := R.slots - slots, locals := R.locals - 64 }) (a := (as.map (ab_v B od)).toArray) hmk f3 f7 hpk (by show R.frames - 1 + 1 ≤ R.frames; omega) hroom (by show cells + (R.cells - cells) ≤ R.cells; omega) (by show slots + (R.slots - slots) ≤ R.slots; omega)
                          (by rw [f5, lg_entry_eq]; exact ih d' j 0 (lv_args 0 as) [] h h2 o2 N hN hrun _ _ _ _ _ _ _ _ _ _ _ _ _ _ hA' hR0 hl0)
                      split at hs
                      · rename_i v h2 hrun
                        obtain ⟨T', locs', cells', slots', X', hR', st'⟩ := call _ _ hrun
                        obtain ⟨t, q1, q2⟩ := ih (d' + 1) mi (pc + 3) L (v.toList ++ r) h2 h' o M hM hs R s m args below meth c T'.heap locs' cells' slots' n0 z0 ls hA hR' hl T' rfl X'
                        refine ⟨t, st t (fun acts => (st' acts).trans ?_), q2⟩
                        cases v <;> exact q1
                      · rename_i ce q h2 hrun
                        obtain ⟨T', locs', cells', slots', X', hR', st'⟩ := call _ _ hrun
                        split at hs
                        · rename_i hnil
                          cases hs
                          have hfind : Finds e ((T'.setTop (F0 m pc ls (r.map (ab_v B od)))).pushFrame (.throwing (B + q))) (F0 m pc ls (r.map (ab_v B od))) (B + q) .none :=
                            Finds.outside (meth := meth) (code := c) X'.method' X'.code (by rw [a6, hnil]; intro y hy; cases hy)
                          have hAt : At T' (F0 m pc ls (r.map (ab_v B od))).method c below := X'.here
                          obtain ⟨g₀, hfr⟩ := X'.frames_eq
                          refine ⟨T'.setFrames (.throwing (B + q) :: below), st _ (fun acts => (st' acts).trans (Steps.thrownOut hAt (meth := meth) X'.method' a4 rfl rfl hfind ?_)), X'.here.running, State.frames_setFrames _ (State.cur_lt_of_frames hfr), (X'.ends _).1, locs', cells', slots', (X'.ends _).2, hR'⟩
                          rw [X'.tail]
                          exact Steps.refl _
                        · split at hs
                          · rename_i hix
                            split at hs
                            · rename_i hp hh
                              obtain ⟨fs, hq⟩ := ab_isx_ok hix
                              obtain ⟨rc, hrc, cell, q1, q2, q3, q4⟩ := hR'.1 q _ hq
                              have hplat : e.platform.magicAccessors = ({} : Platform).magicAccessors := by rw [X'.admits.platform]
                              obtain ⟨vm', hW', hgo⟩ := ab_srch (a := B + q) (g := F0 m pc ls (r.map (ab_v B od))) (cell := cell) hplat a5 hTs hKC hNCs (fun x n hp => (hpl x n hp).2.2.1) q2 (fun k hk => by rw [q3] at hk; cases hk) ⟨rc, hrc⟩ (my_h M) ((T'.setTop (F0 m pc ls (r.map (ab_v B od)))).pushFrame (.throwing (B + q))) X'.warmed q1 hh
                              have hfind : ab_Fd e ((T'.setTop (F0 m pc ls (r.map (ab_v B od)))).pushFrame (.throwing (B + q))) (F0 m pc ls (r.map (ab_v B od))) (B + q) (.found hp) vm' := fun Q E dd acts => by
                                rw [W.findHandler_eq (meth := meth) (code := c) X'.method' X'.code, a6]
                                exact hgo Q E dd acts
                              have X2 := X'.noted hW'
                              obtain ⟨t, z1, z2⟩ := ih (d' + 1) mi hp L [.ref q] h2 h' o M hM hs R s m args below meth c T'.heap locs' cells' slots' n0 z0 ls hA hR' hl (T'.setVm vm') rfl X2
                              exact ⟨t, st t (fun acts => (st' acts).trans (ab_caught X'.here hfind z1)), z2⟩
                            · cases hs
                          · cases hs
                      · cases hs
                    · cases hs
                  · cases hs
                · split at hs
                  · rename_i ce x1 x2 x3 hth
                    split at hs
                    · rename_i hc
                      obtain ⟨hc1, hc2, rfl⟩ := hc
                      cases hs
                      exact hTH M d R s m args below meth c H locs cells slots n0 z0 pc ce x1 x2 x3 ls h hMm hA hl.1 hth hc1 hc2 hR
                    · cases hs
                  · split at hs
                    · rename_i ce x1 x3 hth
                      split at hs
                      · rename_i hc
                        obtain ⟨hc1, hc2, rfl⟩ := hc
                        cases hs
                        exact hTH0 M d R s m args below meth c H locs cells slots n0 z0 pc ce x1 x3 ls h hMm hA hl.1 hth hc1 hc2 hR
                      · cases hs
                    · split at hs
                      · rename_i pc' S' h2 hs4
                        exact ab_s4_ok hx a1 a5 hTs hKC hKA hAO a9 hinj aOO (aSZ M hMm) hsb (fun x n hp => (hpl x n hp).1) (fun x n hp => (hpl x n hp).2.2.2.1) a10 a11 hdg hlen htg hs4 hR (fun H' locs' cells' slots' hR' => ih d mi pc' L S' h2 h' o M hM hs R s m args below meth c H' locs' cells' slots' n0 z0 ls hA hR' hl)
                      · split at hs
                        · rename_i pc' S' h2 hs5
                          exact ab_s5_ok hx a1 (a2.trans hl.1.symm) a5 hTs hKC hKA aOO (aMI M hMm) hsb (fun x n hp => (hpl x n hp).2.2.2.1) (fun x n hp => (hpl x n hp).2.2.2.2.2) (by omega) (by omega) a10 a11 hdg hlen hs5 hR (fun H' locs' cells' slots' hR' => ih d mi pc' L S' h2 h' o M hM hs R s m args below meth c H' locs' cells' slots' n0 z0 ls hA hR' hl)
                        · cases hs
end AB7
end
section
/-! throws of one's own: throw new E("text"), throw new E() -/
/-- what the words say of an exception's entries: its class (9), its constructor with a text (10) -/
def ab_isZ (w : Cond) : Prop := w = .laysStatic Bundle.tN "UNASSIGNED_STACK" Bundle.steD ∨ w = .laysStatic Bundle.tN "SUPPRESSED_SENTINEL" Bundle.listD ∨ w = .isRef (.static Bundle.tN "UNASSIGNED_STACK" Bundle.steD) ∨ w = .isRef (.static Bundle.tN "SUPPRESSED_SENTINEL" Bundle.listD)
def ab_p9 (cl : List vw_C) (Ts : List Cond) (own : String) (x : Nat) (n : ab_N) : Prop := match n with
  | (9, ce, _, _) => ∃ r : vw_C, cl[ce]? = some r ∧ Cond.classLink own x r.1 ∈ Ts ∧ Cond.instantiable r.1 6 ∈ Ts ∧ Cond.initialized r.1 ∈ Ts
  | (10, ce, _, _) => ∃ (r : vw_C) (names : List String), cl[ce]? = some r ∧ r.2.2 = 0 ∧ Bundle.fit r.1 = true ∧ names.length ≤ 4 ∧ (∀ n ∈ names, Bundle.fit n = true) ∧ ∀ w ∈ Bundle.ownAtoms own x r.1 names, ab_isZ w ∨ w ∈ Ts
  | (14, ce, _, _) => ∃ (r : vw_C) (names : List String), cl[ce]? = some r ∧ r.2.2 = 0 ∧ Bundle.fit r.1 = true ∧ names.length ≤ 4 ∧ (∀ n ∈ names, Bundle.fit n = true) ∧ ∀ w ∈ Bundle.ownAtoms0 own x r.1 names, ab_isZ w ∨ w ∈ Ts
  | _ => True
section AB7A
variable {p : Program} {l : Launch} {e : Env} {B NC NS : Nat} {od : Nat → Nat} {D : va_G} {dA : Nat → ClassId} {cl : List vw_C} {ct : Nat → Nat → FieldType} {cd : Nat → List Value} {aty : List FieldType} {oa : Nat → Option (FieldType × Nat × (Nat → Value))} {oo : Nat → Option (Nat × List Value)} {sb : List (Nat × Nat)} {Ts : List Cond} {nc : List (Nat × Nat)} {mt : List ab_M}
set_option maxHeartbeats 8000000 in
theorem ab_TH_ok (hx : p.tables.exec = Jvm.exec) (hnt : l.stackTraces = false) (hSF : ab_SF cl ct cd aty sb Ts mt) (h9 : ∀ M ∈ mt, ∀ x n, my_p M x = some n → ab_p9 cl Ts (my_y M).cls x n) : ab_TH p l e B NC NS od D dA cl aty oa oo Ts nc mt := by
  intro M d R s m args below meth c H locs cells slots n0 z0 pc ce x1 x2 x3 ls h hM hA hls hth hc1 hc2 hR
  obtain ⟨a1, a2, a3, a4, a5, a6, a7, a8, a9, a10, a11, a12, a13, ls1, ls2, aOO, aSZ, aMI⟩ := id hA
  obtain ⟨hsb, hCS, hgood, hus, hmws, hms⟩ := id hSF
  obtain ⟨hck, hpl⟩ := hms M hM
  unfold ab_th at hth
  split at hth
  · rename_i i0 l0 t0 l3 t3 i4 l4 t4 i6 l6 t6 l9 t9 e0 e3 e4 e6 e9
    split at hth
    · rename_i ce' _ _ _ _ w cf _ _ p0 p4 p6
      split at hth
      · rename_i hcc
        obtain ⟨hcc1, hcc2⟩ := hcc
        cases hth
        subst hcc1
        obtain ⟨d0, q0, -⟩ := ab_fe_ok hck e0
        obtain ⟨d3, q3, -⟩ := ab_fe_ok hck e3
        obtain ⟨d4, q4, -⟩ := ab_fe_ok hck e4
        obtain ⟨d6, q6, -⟩ := ab_fe_ok hck e6
        obtain ⟨d9, q9, -⟩ := ab_fe_ok hck e9
        have k0 : l0 = 3 := by rcases q0 with q | q; exact absurd q (by simp [ab_len]); exact q
        have k3 : l3 = 1 := by rcases q3 with q | q; exact absurd q (by simp [ab_len]); exact q
        have k4 : l4 = 2 := by rcases q4 with q | q; exact absurd q (by simp [ab_len]); exact q
        have k6 : l6 = 3 := by rcases q6 with q | q; exact absurd q (by simp [ab_len]); exact q
        have k9 : l9 = 1 := by rcases q9 with q | q; exact absurd q (by simp [ab_len]); exact q
        subst k0 k3 k4 k6 k9
        rw [← a1] at d0 d3 d4 d6 d9
        obtain ⟨r, hr, w1, w2, w3⟩ := h9 M hM _ _ p0
        obtain ⟨r', names, hr', hr0, hfit, hnl, hnf, hown9⟩ := h9 M hM _ _ p6
        cases hr.symm.trans hr'
        intro T hT X
        subst hT
        obtain ⟨b1, b2, b3, b4, b5, b6, b7⟩ := id hR
        have X0 := ab_rebase X (R' := { frames := R.frames, cells := R.cells - cells, slots := R.slots - slots, locals := R.locals }) (Nat.le_refl _) (Nat.le_refl _) (by show cells + (R.cells - cells) ≤ R.cells; omega) (by show slots + (R.slots - slots) ≤ R.slots; omega)
        have hF' : ab_F D dA cl aty od Ts nc mt (T.setFrames (.invoking m args :: below)) := a8.warm hgood hus X.warmed
        have ls1' : ab_LS B Bundle.tN "UNASSIGNED_STACK" Bundle.steD (T.setFrames (.invoking m args :: below)) (T.setFrames (.invoking m args :: below)).heap := ls1.kept X.warmed.alike b3.2.1
        have ls2' : ab_LS B Bundle.tN "SUPPRESSED_SENTINEL" Bundle.listD (T.setFrames (.invoking m args :: below)) (T.setFrames (.invoking m args :: below)).heap := ls2.kept X.warmed.alike b3.2.1
        obtain ⟨hTs, hKC, hKA, hNCs, hAO, hST⟩ := id hF'
        have hown : (T.setFrames (.invoking m args :: below)).vm.findClass (my_y M).cls = some m.cls := by
          show T.vm.findClass _ = _
          rw [X.warmed.alike.findClass]; exact a5
        have htr : e.platform.stackTraces = false := by rw [X.admits.platform]; exact hnt
        obtain ⟨tx, hZ⟩ := hST M hM _ _ _ _ p4
        obtain ⟨vm₁, cX, kX, hfX, hkX, -, -, X₁, st1⟩ := X0.newCold hx (n := 6) hown (va_Nw.use rfl (hTs _ w1)) (va_Nw.use rfl (hTs _ w2)) (va_Nw.use rfl (hTs _ w3)) (g := F0 m pc ls []) rfl d0 (by show 0 + 1 ≤ R.cells - cells; omega) (by show 0 + 6 ≤ R.slots - slots; omega)
        have hcell : ((T.setVm vm₁).pushCell { cls := cX, slots := kX.instanceTypes.map defaultValue, vm := .none }).heap[T.heap.size]? = some (freshCell cX kX) := State.heap_pushCell_size _ _
        generalize hT1 : (T.setVm vm₁).pushCell { cls := cX, slots := kX.instanceTypes.map defaultValue, vm := .none } = T₁ at X₁ st1 hcell
        have hat : ∀ w ∈ Bundle.ownAtoms (my_y M).cls x3 r.1 names, w.before args (T.setFrames (.invoking m args :: below)) = true := by
          intro w hw
          rcases hown9 w hw with hz | hz
          · rcases hz with rfl | rfl | rfl | rfl
            · exact ls1'.lays args
            · exact ls2'.lays args
            · exact ls1'.isRef args
            · exact ls2'.isRef args
          · exact va_Nw.use (hgood w hz).1 (hTs w hz)
        have st2 := X₁.ldcString hx hown (text := tx) (a := od w.toNat) (args := args) hZ.1 hZ.2 (g := F0 m (pc + 4) ls [.ref T.heap.size, .ref T.heap.size]) rfl d4
        obtain ⟨U, hsteps, hrun, hend, hW, hsame, cE, hcE, K⟩ := X₁.ctorThrowS hx htr hown hfit hnf hat (fun y hy => by cases hy) hfX hkX hcell (Nat.le_refl _) (msg := .ref (od w.toNat)) rfl
          (g := F0 m (pc + 6) ls [.ref (od w.toNat), .ref T.heap.size, .ref T.heap.size]) rfl (hls.trans a2.symm) rfl rfl (rest := []) rfl d6 d9 (by rw [a6, hcc2]; intro y hy; cases hy) (by show names.length + 3 < R.frames; omega)
          (by
            have e1 : (F0 m (pc + 6) ls [.ref (od w.toNat), .ref T.heap.size, .ref T.heap.size]).monitorRoom = 0 := rfl
            have e2 : ((Value.ref T.heap.size :: ([] : List Value)).map fun v => v.category).sum = 1 := rfl
            rw [e1, e2]
            show _ ≤ R.locals
            omega) a4
        have hsame2 : T.sameButNew ({ U with vm := T.vm } : State) [] (0 + 1) (0 + 6) := ab_sb hsame
        have hlow : ∀ q, q < T.heap.size → U.heap[q]? = T.heap[q]? := fun q hq => ab_sb_heap hsame2 hq
        have hUs : U.heap.size = T.heap.size + 1 := by
          have z1 : U.heap.size ≤ T.heap.size + (0 + 1) := hsame2.2.2.1
          have z2 := (Array.getElem?_eq_some_iff.mp hcE).1
          omega
        have hsame3 : s.sameButNew ({ U with vm := s.vm } : State) (locs ++ []) (cells + (0 + 1)) (slots + (0 + 6)) := X.same.trans (hsame2.setVm s.vm)
        have hRU : ab_R B od D dA cl NC NS s.heap n0 z0 (h ++ [.inr (ce, List.replicate 6 .null)]) U.heap locs (cells + 1) (slots + 6) := by
          refine hR.push rfl hc1 hc2 ⟨r, hr, ?_⟩ hUs hlow
          rw [hr0, ← b2]
          refine ⟨cE, hcE, ?_, K.vm, fun k hk => absurd hk (Nat.not_lt_zero _)⟩
          exact Option.some.inj (K.cls.symm.trans (hKC ce r hr).1.2.1)
        refine ⟨U, st1 _ ?_, hrun, ?_, State.WarmedH.trans X.warmed hW, locs, cells + 1, slots + 6, ?_, hRU⟩
        · show Steps p.tables e below (T₁.setTop (F0 m (pc + 3) ls [.ref T.heap.size])) U
          jvm_step X₁.here [X₁.here.top, hx, d3, Value.category]
          exact st2 _ hsteps
        · show Ended U below (.threw (B + h.length))
          rw [← b2]; exact hend
        · rw [List.append_nil] at hsame3
          exact hsame3
      · cases hth
    · cases hth
  · cases hth
set_option maxHeartbeats 8000000 in
theorem ab_TH0_ok (hx : p.tables.exec = Jvm.exec) (hnt : l.stackTraces = false) (hSF : ab_SF cl ct cd aty sb Ts mt) (h9 : ∀ M ∈ mt, ∀ x n, my_p M x = some n → ab_p9 cl Ts (my_y M).cls x n)   : ab_TH0 p l e B NC NS od D dA cl aty oa oo Ts nc mt := by
  intro M d R s m args below meth c H locs cells slots n0 z0 pc ce x1 x3 ls h hM hA hls hth hc1 hc2 hR
  obtain ⟨a1, a2, a3, a4, a5, a6, a7, a8, a9, a10, a11, a12, a13, ls1, ls2, aOO, aSZ, aMI⟩ := id hA
  obtain ⟨hsb, hCS, hgood, hus, hmws, hms⟩ := id hSF
  obtain ⟨hck, hpl⟩ := hms M hM
  unfold ab_th0 at hth
  split at hth
  · rename_i i0 l0 t0 l3 t3 i6 l6 t6 l9 t9 e0 e3 e6 e9
    split at hth
    · rename_i ce' _ _ cf _ _ p0 p6
      split at hth
      · rename_i hcc
        obtain ⟨hcc1, hcc2⟩ := hcc
        cases hth
        subst hcc1
        obtain ⟨d0, q0, -⟩ := ab_fe_ok hck e0
        obtain ⟨d3, q3, -⟩ := ab_fe_ok hck e3
        obtain ⟨d6, q6, -⟩ := ab_fe_ok hck e6
        obtain ⟨d9, q9, -⟩ := ab_fe_ok hck e9
        have k0 : l0 = 3 := by rcases q0 with q | q; exact absurd q (by simp [ab_len]); exact q
        have k3 : l3 = 1 := by rcases q3 with q | q; exact absurd q (by simp [ab_len]); exact q
        have k6 : l6 = 3 := by rcases q6 with q | q; exact absurd q (by simp [ab_len]); exact q
        have k9 : l9 = 1 := by rcases q9 with q | q; exact absurd q (by simp [ab_len]); exact q
        subst k0 k3 k6 k9
        rw [← a1] at d0 d3 d6 d9
        obtain ⟨r, hr, w1, w2, w3⟩ := h9 M hM _ _ p0
        obtain ⟨r', names, hr', hr0, hfit, hnl, hnf, hown9⟩ := h9 M hM _ _ p6
        cases hr.symm.trans hr'
        intro T hT X
        subst hT
        obtain ⟨b1, b2, b3, b4, b5, b6, b7⟩ := id hR
        have X0 := ab_rebase X (R' := { frames := R.frames, cells := R.cells - cells, slots := R.slots - slots, locals := R.locals }) (Nat.le_refl _) (Nat.le_refl _) (by show cells + (R.cells - cells) ≤ R.cells; omega) (by show slots + (R.slots - slots) ≤ R.slots; omega)
        have hF' : ab_F D dA cl aty od Ts nc mt (T.setFrames (.invoking m args :: below)) := a8.warm hgood hus X.warmed
        have ls1' : ab_LS B Bundle.tN "UNASSIGNED_STACK" Bundle.steD (T.setFrames (.invoking m args :: below)) (T.setFrames (.invoking m args :: below)).heap := ls1.kept X.warmed.alike b3.2.1
        have ls2' : ab_LS B Bundle.tN "SUPPRESSED_SENTINEL" Bundle.listD (T.setFrames (.invoking m args :: below)) (T.setFrames (.invoking m args :: below)).heap := ls2.kept X.warmed.alike b3.2.1
        obtain ⟨hTs, hKC, hKA, hNCs, hAO, hST⟩ := id hF'
        have hown : (T.setFrames (.invoking m args :: below)).vm.findClass (my_y M).cls = some m.cls := by
          show T.vm.findClass _ = _
          rw [X.warmed.alike.findClass]; exact a5
        have htr : e.platform.stackTraces = false := by rw [X.admits.platform]; exact hnt
        obtain ⟨vm₁, cX, kX, hfX, hkX, -, -, X₁, st1⟩ := X0.newCold hx (n := 6) hown (va_Nw.use rfl (hTs _ w1)) (va_Nw.use rfl (hTs _ w2)) (va_Nw.use rfl (hTs _ w3)) (g := F0 m pc ls []) rfl d0 (by show 0 + 1 ≤ R.cells - cells; omega) (by show 0 + 6 ≤ R.slots - slots; omega)
        have hcell : ((T.setVm vm₁).pushCell { cls := cX, slots := kX.instanceTypes.map defaultValue, vm := .none }).heap[T.heap.size]? = some (freshCell cX kX) := State.heap_pushCell_size _ _
        generalize hT1 : (T.setVm vm₁).pushCell { cls := cX, slots := kX.instanceTypes.map defaultValue, vm := .none } = T₁ at X₁ st1 hcell
        have hat : ∀ w ∈ Bundle.ownAtoms0 (my_y M).cls x3 r.1 names, w.before args (T.setFrames (.invoking m args :: below)) = true := by
          intro w hw
          rcases hown9 w hw with hz | hz
          · rcases hz with rfl | rfl | rfl | rfl
            · exact ls1'.lays args
            · exact ls2'.lays args
            · exact ls1'.isRef args
            · exact ls2'.isRef args
          · exact va_Nw.use (hgood w hz).1 (hTs w hz)
        obtain ⟨U, hsteps, hrun, hend, hW, hsame, cE, hcE, K⟩ := X₁.ctorThrow0 hx htr hown hfit hnf hat (fun y hy => by cases hy) hfX hkX hcell (Nat.le_refl _)
          (g := F0 m (pc + 4) ls [.ref T.heap.size, .ref T.heap.size]) rfl (hls.trans a2.symm) rfl rfl (rest := []) rfl d6 d9 (by rw [a6, hcc2]; intro y hy; cases hy) (by show names.length + 3 < R.frames; omega)
          (by
            have e1 : (F0 m (pc + 4) ls [.ref T.heap.size, .ref T.heap.size]).monitorRoom = 0 := rfl
            have e2 : ((Value.ref T.heap.size :: ([] : List Value)).map fun v => v.category).sum = 1 := rfl
            rw [e1, e2]
            show _ ≤ R.locals
            omega) a4
        have hsame2 : T.sameButNew ({ U with vm := T.vm } : State) [] (0 + 1) (0 + 6) := ab_sb hsame
        have hlow : ∀ q, q < T.heap.size → U.heap[q]? = T.heap[q]? := fun q hq => ab_sb_heap hsame2 hq
        have hUs : U.heap.size = T.heap.size + 1 := by
          have z1 : U.heap.size ≤ T.heap.size + (0 + 1) := hsame2.2.2.1
          have z2 := (Array.getElem?_eq_some_iff.mp hcE).1
          omega
        have hsame3 : s.sameButNew ({ U with vm := s.vm } : State) (locs ++ []) (cells + (0 + 1)) (slots + (0 + 6)) := X.same.trans (hsame2.setVm s.vm)
        have hRU : ab_R B od D dA cl NC NS s.heap n0 z0 (h ++ [.inr (ce, List.replicate 6 .null)]) U.heap locs (cells + 1) (slots + 6) := by
          refine hR.push rfl hc1 hc2 ⟨r, hr, ?_⟩ hUs hlow
          rw [hr0, ← b2]
          refine ⟨cE, hcE, ?_, K.vm, fun k hk => absurd hk (Nat.not_lt_zero _)⟩
          exact Option.some.inj (K.cls.symm.trans (hKC ce r hr).1.2.1)
        refine ⟨U, st1 _ ?_, hrun, ?_, State.WarmedH.trans X.warmed hW, locs, cells + 1, slots + 6, ?_, hRU⟩
        · show Steps p.tables e below (T₁.setTop (F0 m (pc + 3) ls [.ref T.heap.size])) U
          jvm_step X₁.here [X₁.here.top, hx, d3, Value.category]
          exact hsteps
        · show Ended U below (.threw (B + h.length))
          rw [← b2]; exact hend
        · rw [List.append_nil] at hsame3
          exact hsame3
      · cases hth
    · cases hth
  · cases hth
end AB7A
end
