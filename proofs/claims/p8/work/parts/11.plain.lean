/-- the length of an instruction (0: not one of those, or a switch) -/
def ab_len (i : Instr) : Nat := match i with
  | .iconst _ => 1
  | .bipush _ => 2
  | .sipush _ => 3
  | .lconst _ => 1
  | .aconst_null => 1
  | .iload_n _ => 1
  | .iload _ => 2
  | .lload_n _ => 1
  | .lload _ => 2
  | .aload_n _ => 1
  | .aload _ => 2
  | .istore_n _ => 1
  | .istore _ => 2
  | .lstore_n _ => 1
  | .lstore _ => 2
  | .astore_n _ => 1
  | .astore _ => 2
  | .iinc _ _ => 3
  | .iadd => 1
  | .isub => 1
  | .imul => 1
  | .iand => 1
  | .ior => 1
  | .ixor => 1
  | .ishl => 1
  | .ishr => 1
  | .iushr => 1
  | .ladd => 1
  | .lsub => 1
  | .lmul => 1
  | .lcmp => 1
  | .idiv => 1
  | .irem => 1
  | .ldiv => 1
  | .lrem => 1
  | .ineg => 1
  | .lneg => 1
  | .i2l => 1
  | .l2i => 1
  | .i2b => 1
  | .i2c => 1
  | .dup => 1
  | .pop => 1
  | .dup_x1 => 1
  | .dup_x2 => 1
  | .dup2 => 1
  | .ifCond _ _ => 3
  | .if_icmp _ _ => 3
  | .instanceof _ => 3
  | .goto _ => 3
  | .ifnull _ => 3
  | .ifnonnull _ => 3
  | .getfield _ => 3
  | .putfield _ => 3
  | .getstatic _ => 3
  | .new _ => 3
  | .newarray _ => 2
  | .anewarray _ => 3
  | .checkcast _ => 3
  | .arraylength => 1
  | .iaload => 1
  | .baload => 1
  | .caload => 1
  | .laload => 1
  | .aaload => 1
  | .iastore => 1
  | .bastore => 1
  | .castore => 1
  | .lastore => 1
  | .aastore => 1
  | .invokevirtual _ => 3
  | .invokespecial _ => 3
  | .invokestatic _ => 3
  | .ireturn => 1
  | .lreturn => 1
  | .areturn => 1
  | .return_ => 1
  | .athrow => 1
  | .ldc _ => 2
  | .ldc_w _ => 3
  | .ldc2_w _ => 3
  | .if_acmp _ _ => 3
  | _ => 0
/-- where a branch goes -/
def ab_off (i : Instr) : Option Int := match i with
  | .ifCond _ off => some off
  | .if_icmp _ off => some off
  | .if_acmp _ off => some off
  | .goto off => some off
  | .ifnull off => some off
  | .ifnonnull off => some off
  | _ => none
/-- instructions that touch locals and stack alone -/
def ab_s1 (nL : Nat) (i : Instr) (pc tg : Nat) (L : ab_L) (S : List Value) : Option (Nat × ab_L × List Value) := match i with
  | .iconst n => some (pc + 1, L, .int (Int32.ofInt n) :: S)
  | .bipush n => some (pc + 2, L, .int (Int8.ofInt n).toInt32 :: S)
  | .sipush n => some (pc + 3, L, .int (Int16.ofInt n).toInt32 :: S)
  | .lconst n => some (pc + 1, L, .long (Int64.ofNat (n : Nat)) :: S)
  | .aconst_null => some (pc + 1, L, .null :: S)
  | .iload_n n => (match ab_get L n with | some (.int x) => some (pc + 1, L, .int x :: S) | _ => none)
  | .iload n => (match ab_get L n with | some (.int x) => some (pc + 2, L, .int x :: S) | _ => none)
  | .lload_n n => (match ab_get L n with | some (.long x) => some (pc + 1, L, .long x :: S) | _ => none)
  | .lload n => (match ab_get L n with | some (.long x) => some (pc + 2, L, .long x :: S) | _ => none)
  | .aload_n n => (match ab_get L n with | some (.ref x) => some (pc + 1, L, .ref x :: S) | some (.float x) => some (pc + 1, L, .float x :: S) | some .null => some (pc + 1, L, .null :: S) | _ => none)
  | .aload n => (match ab_get L n with | some (.ref x) => some (pc + 2, L, .ref x :: S) | some (.float x) => some (pc + 2, L, .float x :: S) | some .null => some (pc + 2, L, .null :: S) | _ => none)
  | .istore_n n => (match S with | .int x :: r => if (n : Nat) < nL then some (pc + 1, ab_put1 L n (.int x), r) else none | _ => none)
  | .istore n => (match S with | .int x :: r => if (n : Nat) < nL then some (pc + 2, ab_put1 L n (.int x), r) else none | _ => none)
  | .lstore_n n => (match S with | .long x :: r => if (n : Nat) + 1 < nL then some (pc + 1, ab_put2 L n (.long x), r) else none | _ => none)
  | .lstore n => (match S with | .long x :: r => if (n : Nat) + 1 < nL then some (pc + 2, ab_put2 L n (.long x), r) else none | _ => none)
  | .astore_n n => (match S with | .ref x :: r => if (n : Nat) < nL then some (pc + 1, ab_put1 L n (.ref x), r) else none | .float x :: r => if (n : Nat) < nL then some (pc + 1, ab_put1 L n (.float x), r) else none | .null :: r => if (n : Nat) < nL then some (pc + 1, ab_put1 L n .null, r) else none | _ => none)
  | .astore n => (match S with | .ref x :: r => if (n : Nat) < nL then some (pc + 2, ab_put1 L n (.ref x), r) else none | .float x :: r => if (n : Nat) < nL then some (pc + 2, ab_put1 L n (.float x), r) else none | .null :: r => if (n : Nat) < nL then some (pc + 2, ab_put1 L n .null, r) else none | _ => none)
  | .iinc n z => (match ab_get L n with | some (.int x) => if n < nL then some (pc + 3, ab_put1 L n (.int (x + Int32.ofInt z)), S) else none | _ => none)
  | .iadd => (match S with | .int y :: .int x :: r => some (pc + 1, L, .int (x + y) :: r) | _ => none)
  | .isub => (match S with | .int y :: .int x :: r => some (pc + 1, L, .int (x - y) :: r) | _ => none)
  | .imul => (match S with | .int y :: .int x :: r => some (pc + 1, L, .int (x * y) :: r) | _ => none)
  | .iand => (match S with | .int y :: .int x :: r => some (pc + 1, L, .int (x &&& y) :: r) | _ => none)
  | .ior => (match S with | .int y :: .int x :: r => some (pc + 1, L, .int (x ||| y) :: r) | _ => none)
  | .ixor => (match S with | .int y :: .int x :: r => some (pc + 1, L, .int (x ^^^ y) :: r) | _ => none)
  | .ishl => (match S with | .int y :: .int x :: r => some (pc + 1, L, .int (x <<< (y &&& 31)) :: r) | _ => none)
  | .ishr => (match S with | .int y :: .int x :: r => some (pc + 1, L, .int (x >>> (y &&& 31)) :: r) | _ => none)
  | .iushr => (match S with | .int y :: .int x :: r => some (pc + 1, L, .int ((x.toUInt32 >>> (y.toUInt32 &&& Int32.toUInt32 31)).toInt32) :: r) | _ => none)
  | .ladd => (match S with | .long y :: .long x :: r => some (pc + 1, L, .long (x + y) :: r) | _ => none)
  | .lsub => (match S with | .long y :: .long x :: r => some (pc + 1, L, .long (x - y) :: r) | _ => none)
  | .lmul => (match S with | .long y :: .long x :: r => some (pc + 1, L, .long (x * y) :: r) | _ => none)
  | .lcmp => (match S with | .long y :: .long x :: r => some (pc + 1, L, .int (lg_cmp x y) :: r) | _ => none)
  | .idiv => (match S with | .int y :: .int x :: r => if y = 0 then none else some (pc + 1, L, .int (x / y) :: r) | _ => none)
  | .irem => (match S with | .int y :: .int x :: r => if y = 0 then none else some (pc + 1, L, .int (x - x / y * y) :: r) | _ => none)
  | .ldiv => (match S with | .long y :: .long x :: r => if y = 0 then none else some (pc + 1, L, .long (x / y) :: r) | _ => none)
  | .lrem => (match S with | .long y :: .long x :: r => if y = 0 then none else some (pc + 1, L, .long (x - x / y * y) :: r) | _ => none)
  | .ineg => (match S with | .int x :: r => some (pc + 1, L, .int (-x) :: r) | _ => none)
  | .lneg => (match S with | .long x :: r => some (pc + 1, L, .long (-x) :: r) | _ => none)
  | .i2l => (match S with | .int x :: r => some (pc + 1, L, .long (x.toInt64) :: r) | _ => none)
  | .l2i => (match S with | .long x :: r => some (pc + 1, L, .int (x.toInt32) :: r) | _ => none)
  | .i2b => (match S with | .int x :: r => some (pc + 1, L, .int (x.toInt8.toInt32) :: r) | _ => none)
  | .i2c => (match S with | .int x :: r => some (pc + 1, L, .int ((x.toUInt32 % 65536).toInt32) :: r) | _ => none)
  | .dup => (match S with | a :: r => if a.category = 1 then some (pc + 1, L, a :: a :: r) else none | _ => none)
  | .pop => (match S with | a :: r => if a.category = 1 then some (pc + 1, L, r) else none | _ => none)
  | .dup_x1 => (match S with | a :: b :: r => if a.category = 1 ∧ b.category = 1 then some (pc + 1, L, a :: b :: a :: r) else none | _ => none)
  | .dup_x2 => (match S with | a :: b :: d :: r => if a.category = 1 ∧ b.category = 1 ∧ d.category = 1 then some (pc + 1, L, a :: b :: d :: a :: r) else none | _ => none)
  | .dup2 => (match S with | a :: b :: r => if a.category = 1 ∧ b.category = 1 then some (pc + 1, L, a :: b :: a :: b :: r) else none | _ => none)
  | .ifCond .eq off => (match S with | .int x :: r => some (if x = 0 then tg else pc + 3, L, r) | _ => none)
  | .if_icmp .eq off => (match S with | .int y :: .int x :: r => some (if x = y then tg else pc + 3, L, r) | _ => none)
  | .ifCond .ne off => (match S with | .int x :: r => some (if x = 0 then pc + 3 else tg, L, r) | _ => none)
  | .if_icmp .ne off => (match S with | .int y :: .int x :: r => some (if x = y then pc + 3 else tg, L, r) | _ => none)
  | .ifCond .lt off => (match S with | .int x :: r => some (if x < 0 then tg else pc + 3, L, r) | _ => none)
  | .if_icmp .lt off => (match S with | .int y :: .int x :: r => some (if x < y then tg else pc + 3, L, r) | _ => none)
  | .ifCond .ge off => (match S with | .int x :: r => some (if 0 ≤ x then tg else pc + 3, L, r) | _ => none)
  | .if_icmp .ge off => (match S with | .int y :: .int x :: r => some (if y ≤ x then tg else pc + 3, L, r) | _ => none)
  | .ifCond .gt off => (match S with | .int x :: r => some (if 0 < x then tg else pc + 3, L, r) | _ => none)
  | .if_icmp .gt off => (match S with | .int y :: .int x :: r => some (if y < x then tg else pc + 3, L, r) | _ => none)
  | .ifCond .le off => (match S with | .int x :: r => some (if x ≤ 0 then tg else pc + 3, L, r) | _ => none)
  | .if_icmp .le off => (match S with | .int y :: .int x :: r => some (if x ≤ y then tg else pc + 3, L, r) | _ => none)
  | .goto off => some (tg, L, S)
  | .ifnull off => (match S with | .ref _ :: r => some (pc + 3, L, r) | .float _ :: r => some (pc + 3, L, r) | .null :: r => some (tg, L, r) | _ => none)
  | .ifnonnull off => (match S with | .ref _ :: r => some (tg, L, r) | .float _ :: r => some (tg, L, r) | .null :: r => some (pc + 3, L, r) | _ => none)
  | _ => none
section AB1
variable {p : Program} {l : Launch} {e : Env} {R : Room} {s : State} {m : MethodId} {args : Array Value} {below : List Frame} {meth : Method} {c : Code} {H : Heap} {locs : List Loc} {cells slots : Nat} {Q : State → Prop}
variable {cc : ByteArray} {pc pc' tg nL len B : Nat} {od : Nat → Nat} {L L' : ab_L} {S S' : List Value} {i : Instr} {ls : Array Slot}
set_option maxHeartbeats 4000000 in
theorem ab_s1_ok (hx : p.tables.exec = Jvm.exec) (hb : c.code = cc) (hdg : decode cc pc = .ok (i, len)) (hlen : ab_len i = 0 ∨ len = ab_len i) (htg0 : ∀ off, ab_off i = some off → (pc : Int) + off = (tg : Int))
    (hs : ab_s1 nL i pc tg L S = some (pc', L', S')) (hl : lv_has ls nL (ab_m B od L))
    (k : ∀ ls' : Array Slot, lv_has ls' nL (ab_m B od L') → W p l e R s m args below meth c H locs cells slots Q (F0 m pc' ls' (S'.map (ab_v B od)))) :
    W p l e R s m args below meth c H locs cells slots Q (F0 m pc ls (S.map (ab_v B od))) := by
  rcases hlen with hlen | hlen
  · cases i
    all_goals first | (simp only [ab_s1] at hs; cases hs; done) | (revert hlen; simp [ab_len]; done)
  subst hlen
  cases i
  case iconst n =>
    simp only [ab_s1] at hs
    cases hs
    exact lv_iconst hx hb hdg rfl (k ls hl)
  case bipush n =>
    simp only [ab_s1] at hs
    cases hs
    exact lv_bipush hx hb hdg rfl (k ls hl)
  case sipush n =>
    simp only [ab_s1] at hs
    cases hs
    exact lv_sipush hx hb hdg rfl (k ls hl)
  case lconst n =>
    simp only [ab_s1] at hs
    cases hs
    exact lv_lconst hx hb hdg rfl (k ls hl)
  case aconst_null =>
    simp only [ab_s1] at hs
    cases hs
    exact lv_null hx hb hdg (k ls hl)
  case iload_n n =>
    simp only [ab_s1] at hs
    split at hs
    · rename_i x hg
      cases hs
      exact lv_iload_n hx hb hdg rfl (ab_at hl hg) (k ls hl)
    · cases hs
  case iload n =>
    simp only [ab_s1] at hs
    split at hs
    · rename_i x hg
      cases hs
      exact lv_iload hx hb hdg (ab_at hl hg) (k ls hl)
    · cases hs
  case lload_n n =>
    simp only [ab_s1] at hs
    split at hs
    · rename_i x hg
      cases hs
      exact lv_lload_n hx hb hdg rfl (ab_at hl hg) (k ls hl)
    · cases hs
  case lload n =>
    simp only [ab_s1] at hs
    split at hs
    · rename_i x hg
      cases hs
      exact lv_lload hx hb hdg (ab_at hl hg) (k ls hl)
    · cases hs
  case aload_n n =>
    simp only [ab_s1] at hs
    split at hs
    · rename_i x hg
      cases hs
      exact lv_aload_n hx hb hdg rfl (ab_at hl hg) (k ls hl)
    · rename_i x hg
      cases hs
      exact lv_aload_n hx hb hdg rfl (ab_at hl hg) (k ls hl)
    · rename_i hg
      cases hs
      exact lv_aload_nN hx hb hdg rfl (ab_at hl hg) (k ls hl)
    · cases hs
  case aload n =>
    simp only [ab_s1] at hs
    split at hs
    · rename_i x hg
      cases hs
      exact lv_aload hx hb hdg (ab_at hl hg) (k ls hl)
    · rename_i x hg
      cases hs
      exact lv_aload hx hb hdg (ab_at hl hg) (k ls hl)
    · rename_i hg
      cases hs
      exact lv_aloadN hx hb hdg (ab_at hl hg) (k ls hl)
    · cases hs
  case istore_n n =>
    simp only [ab_s1] at hs
    split at hs
    · rename_i x r
      split at hs
      · rename_i hn
        cases hs
        exact lv_istore_n hx hb hdg rfl hl hn (ab_m_put1 B od L _ (.int x)) (fun ls' hl' => k ls' hl')
      · cases hs
    · cases hs
  case istore n =>
    simp only [ab_s1] at hs
    split at hs
    · rename_i x r
      split at hs
      · rename_i hn
        cases hs
        exact lv_istore hx hb hdg hl hn (ab_m_put1 B od L _ (.int x)) (fun ls' hl' => k ls' hl')
      · cases hs
    · cases hs
  case lstore_n n =>
    simp only [ab_s1] at hs
    split at hs
    · rename_i x r
      split at hs
      · rename_i hn
        cases hs
        exact lv_lstore_n hx hb hdg rfl hl hn (ab_m_put2 B od L _ (.long x)) (fun ls' hl' => k ls' hl')
      · cases hs
    · cases hs
  case lstore n =>
    simp only [ab_s1] at hs
    split at hs
    · rename_i x r
      split at hs
      · rename_i hn
        cases hs
        exact lv_lstore hx hb hdg hl hn (ab_m_put2 B od L _ (.long x)) (fun ls' hl' => k ls' hl')
      · cases hs
    · cases hs
  case astore_n n =>
    simp only [ab_s1] at hs
    split at hs
    · rename_i x r
      split at hs
      · rename_i hn
        cases hs
        exact lv_astore_n hx hb hdg rfl hl hn (ab_m_put1 B od L _ (.ref x)) (fun ls' hl' => k ls' hl')
      · cases hs
    · rename_i x r
      split at hs
      · rename_i hn
        cases hs
        exact lv_astore_n hx hb hdg rfl hl hn (ab_m_put1 B od L _ (.float x)) (fun ls' hl' => k ls' hl')
      · cases hs
    · rename_i r
      split at hs
      · rename_i hn
        cases hs
        exact lv_astore_nN hx hb hdg rfl hl hn (ab_m_put1 B od L _ .null) (fun ls' hl' => k ls' hl')
      · cases hs
    · cases hs
  case astore n =>
    simp only [ab_s1] at hs
    split at hs
    · rename_i x r
      split at hs
      · rename_i hn
        cases hs
        exact lv_astore hx hb hdg hl hn (ab_m_put1 B od L _ (.ref x)) (fun ls' hl' => k ls' hl')
      · cases hs
    · rename_i x r
      split at hs
      · rename_i hn
        cases hs
        exact lv_astore hx hb hdg hl hn (ab_m_put1 B od L _ (.float x)) (fun ls' hl' => k ls' hl')
      · cases hs
    · rename_i r
      split at hs
      · rename_i hn
        cases hs
        exact lv_astoreN hx hb hdg hl hn (ab_m_put1 B od L _ .null) (fun ls' hl' => k ls' hl')
      · cases hs
    · cases hs
  case iinc n z =>
    simp only [ab_s1] at hs
    split at hs
    · rename_i x hg
      split at hs
      · rename_i hn
        cases hs
        obtain ⟨j, hj⟩ := List.getElem?_of_mem (List.mem_map.mpr ⟨(n, Value.int x), ab_get_mem hg, rfl⟩ : (n, ab_v B od (.int x)) ∈ ab_m B od L)
        exact lv_iinc (x := x) hx hb hdg hl hj rfl hn (ab_m_put1 B od L n (.int (x + Int32.ofInt z))) (fun ls' hl' => k ls' hl')
      · cases hs
    · cases hs
  case iadd =>
    simp only [ab_s1] at hs
    split at hs
    · rename_i y x r
      cases hs
      exact lv_iadd hx hb hdg (k ls hl)
    · cases hs
  case isub =>
    simp only [ab_s1] at hs
    split at hs
    · rename_i y x r
      cases hs
      exact lv_isub hx hb hdg (k ls hl)
    · cases hs
  case imul =>
    simp only [ab_s1] at hs
    split at hs
    · rename_i y x r
      cases hs
      exact lv_imul hx hb hdg (k ls hl)
    · cases hs
  case iand =>
    simp only [ab_s1] at hs
    split at hs
    · rename_i y x r
      cases hs
      exact lv_iand hx hb hdg (k ls hl)
    · cases hs
  case ior =>
    simp only [ab_s1] at hs
    split at hs
    · rename_i y x r
      cases hs
      exact lv_ior hx hb hdg (k ls hl)
    · cases hs
  case ixor =>
    simp only [ab_s1] at hs
    split at hs
    · rename_i y x r
      cases hs
      exact lv_ixor hx hb hdg (k ls hl)
    · cases hs
  case ishl =>
    simp only [ab_s1] at hs
    split at hs
    · rename_i y x r
      cases hs
      exact lv_ishl hx hb hdg (k ls hl)
    · cases hs
  case ishr =>
    simp only [ab_s1] at hs
    split at hs
    · rename_i y x r
      cases hs
      exact lv_ishr hx hb hdg (k ls hl)
    · cases hs
  case iushr =>
    simp only [ab_s1] at hs
    split at hs
    · rename_i y x r
      cases hs
      exact lv_iushr hx hb hdg rfl (k ls hl)
    · cases hs
  case ladd =>
    simp only [ab_s1] at hs
    split at hs
    · rename_i y x r
      cases hs
      exact lv_ladd hx hb hdg (k ls hl)
    · cases hs
  case lsub =>
    simp only [ab_s1] at hs
    split at hs
    · rename_i y x r
      cases hs
      exact lv_lsub hx hb hdg (k ls hl)
    · cases hs
  case lmul =>
    simp only [ab_s1] at hs
    split at hs
    · rename_i y x r
      cases hs
      exact lv_lmul hx hb hdg (k ls hl)
    · cases hs
  case lcmp =>
    simp only [ab_s1] at hs
    split at hs
    · rename_i y x r
      cases hs
      exact W.lcmp hx hb hdg (k ls hl)
    · cases hs
  case idiv =>
    simp only [ab_s1] at hs
    split at hs
    · rename_i y x r
      split at hs
      · cases hs
      · rename_i hn
        cases hs
        exact lv_idiv hx hb hdg hn (k ls hl)
    · cases hs
  case irem =>
    simp only [ab_s1] at hs
    split at hs
    · rename_i y x r
      split at hs
      · cases hs
      · rename_i hn
        cases hs
        exact lv_irem hx hb hdg hn (k ls hl)
    · cases hs
  case ldiv =>
    simp only [ab_s1] at hs
    split at hs
    · rename_i y x r
      split at hs
      · cases hs
      · rename_i hn
        cases hs
        exact lv_ldiv hx hb hdg hn (k ls hl)
    · cases hs
  case lrem =>
    simp only [ab_s1] at hs
    split at hs
    · rename_i y x r
      split at hs
      · cases hs
      · rename_i hn
        cases hs
        exact lv_lrem hx hb hdg hn (k ls hl)
    · cases hs
  case ineg =>
    simp only [ab_s1] at hs
    split at hs
    · rename_i x r
      cases hs
      exact lv_ineg hx hb hdg (k ls hl)
    · cases hs
  case lneg =>
    simp only [ab_s1] at hs
    split at hs
    · rename_i x r
      cases hs
      exact lv_lneg hx hb hdg (k ls hl)
    · cases hs
  case i2l =>
    simp only [ab_s1] at hs
    split at hs
    · rename_i x r
      cases hs
      exact lv_i2l hx hb hdg rfl (k ls hl)
    · cases hs
  case l2i =>
    simp only [ab_s1] at hs
    split at hs
    · rename_i x r
      cases hs
      exact lv_l2i hx hb hdg rfl (k ls hl)
    · cases hs
  case i2b =>
    simp only [ab_s1] at hs
    split at hs
    · rename_i x r
      cases hs
      exact lv_i2b hx hb hdg rfl (k ls hl)
    · cases hs
  case i2c =>
    simp only [ab_s1] at hs
    split at hs
    · rename_i x r
      cases hs
      exact lv_i2c hx hb hdg rfl (k ls hl)
    · cases hs
  case dup =>
    simp only [ab_s1] at hs
    split at hs
    · rename_i a r
      split at hs
      · rename_i hc
        have w0 := hc
        cases hs
        exact lv_dup hx hb hdg (by rw [ab_v_cat]; exact w0) (k ls hl)
      · cases hs
    · cases hs
  case pop =>
    simp only [ab_s1] at hs
    split at hs
    · rename_i a r
      split at hs
      · rename_i hc
        have w0 := hc
        cases hs
        exact lv_pop hx hb hdg (by rw [ab_v_cat]; exact w0) (k ls hl)
      · cases hs
    · cases hs
  case dup_x1 =>
    simp only [ab_s1] at hs
    split at hs
    · rename_i a b r
      split at hs
      · rename_i hc
        obtain ⟨w0, w1⟩ := hc
        cases hs
        exact lv_dup_x1 hx hb hdg (by rw [ab_v_cat]; exact w0) (by rw [ab_v_cat]; exact w1) (k ls hl)
      · cases hs
    · cases hs
  case dup_x2 =>
    simp only [ab_s1] at hs
    split at hs
    · rename_i a b d r
      split at hs
      · rename_i hc
        obtain ⟨w0, w1, w2⟩ := hc
        cases hs
        exact lv_dup_x2 hx hb hdg (by rw [ab_v_cat]; exact w0) (by rw [ab_v_cat]; exact w1) (by rw [ab_v_cat]; exact w2) (k ls hl)
      · cases hs
    · cases hs
  case dup2 =>
    simp only [ab_s1] at hs
    split at hs
    · rename_i a b r
      split at hs
      · rename_i hc
        obtain ⟨w0, w1⟩ := hc
        cases hs
        exact lv_dup2_11 hx hb hdg (by rw [ab_v_cat]; exact w0) (by rw [ab_v_cat]; exact w1) (k ls hl)
      · cases hs
    · cases hs
  case goto off =>
    have htg := htg0 _ rfl
    simp only [ab_s1] at hs
    cases hs
    exact lv_goto hx hb hdg htg (k ls hl)
  case ifnull off =>
    have htg := htg0 _ rfl
    simp only [ab_s1] at hs
    split at hs
    · rename_i x r
      cases hs
      exact lv_ifnull hx hb hdg (k ls hl)
    · rename_i x r
      cases hs
      exact lv_ifnull hx hb hdg (k ls hl)
    · rename_i r
      cases hs
      exact lv_ifnullN hx hb hdg htg (k ls hl)
    · cases hs
  case ifnonnull off =>
    have htg := htg0 _ rfl
    simp only [ab_s1] at hs
    split at hs
    · rename_i x r
      cases hs
      exact lv_ifnonnull hx hb hdg htg (k ls hl)
    · rename_i x r
      cases hs
      exact lv_ifnonnull hx hb hdg htg (k ls hl)
    · rename_i r
      cases hs
      exact lv_ifnonnullN hx hb hdg (k ls hl)
    · cases hs
  case ifCond cd off =>
    have htg := htg0 _ rfl
    cases cd
    case eq =>
      simp only [ab_s1] at hs
      split at hs
      · rename_i x r
        cases hs
        exact lv_if_eq hx hb hdg htg (fun hc => by have k1 := k ls hl; rw [if_pos hc] at k1; exact k1) (fun hc => by have k1 := k ls hl; rw [if_neg hc] at k1; exact k1)
      · cases hs
    case ne =>
      simp only [ab_s1] at hs
      split at hs
      · rename_i x r
        cases hs
        exact lv_if_ne hx hb hdg htg (fun hc => by have k1 := k ls hl; rw [if_neg hc] at k1; exact k1) (fun hc => by have k1 := k ls hl; rw [if_pos hc] at k1; exact k1)
      · cases hs
    case lt =>
      simp only [ab_s1] at hs
      split at hs
      · rename_i x r
        cases hs
        exact lv_if_lt hx hb hdg htg (fun hc => by have k1 := k ls hl; rw [if_pos hc] at k1; exact k1) (fun hc => by have k1 := k ls hl; rw [if_neg hc] at k1; exact k1)
      · cases hs
    case ge =>
      simp only [ab_s1] at hs
      split at hs
      · rename_i x r
        cases hs
        exact lv_if_ge hx hb hdg htg (fun hc => by have k1 := k ls hl; rw [if_pos hc] at k1; exact k1) (fun hc => by have k1 := k ls hl; rw [if_neg hc] at k1; exact k1)
      · cases hs
    case gt =>
      simp only [ab_s1] at hs
      split at hs
      · rename_i x r
        cases hs
        exact lv_if_gt hx hb hdg htg (fun hc => by have k1 := k ls hl; rw [if_pos hc] at k1; exact k1) (fun hc => by have k1 := k ls hl; rw [if_neg hc] at k1; exact k1)
      · cases hs
    case le =>
      simp only [ab_s1] at hs
      split at hs
      · rename_i x r
        cases hs
        exact lv_if_le hx hb hdg htg (fun hc => by have k1 := k ls hl; rw [if_pos hc] at k1; exact k1) (fun hc => by have k1 := k ls hl; rw [if_neg hc] at k1; exact k1)
      · cases hs
  case if_icmp cd off =>
    have htg := htg0 _ rfl
    cases cd
    case eq =>
      simp only [ab_s1] at hs
      split at hs
      · rename_i y x r
        cases hs
        exact lv_icmp_eq hx hb hdg htg (fun hc => by have k1 := k ls hl; rw [if_pos hc] at k1; exact k1) (fun hc => by have k1 := k ls hl; rw [if_neg hc] at k1; exact k1)
      · cases hs
    case ne =>
      simp only [ab_s1] at hs
      split at hs
      · rename_i y x r
        cases hs
        exact lv_icmp_ne hx hb hdg htg (fun hc => by have k1 := k ls hl; rw [if_neg hc] at k1; exact k1) (fun hc => by have k1 := k ls hl; rw [if_pos hc] at k1; exact k1)
      · cases hs
    case lt =>
      simp only [ab_s1] at hs
      split at hs
      · rename_i y x r
        cases hs
        exact lv_icmp_lt hx hb hdg htg (fun hc => by have k1 := k ls hl; rw [if_pos hc] at k1; exact k1) (fun hc => by have k1 := k ls hl; rw [if_neg hc] at k1; exact k1)
      · cases hs
    case ge =>
      simp only [ab_s1] at hs
      split at hs
      · rename_i y x r
        cases hs
        exact lv_icmp_ge hx hb hdg htg (fun hc => by have k1 := k ls hl; rw [if_pos hc] at k1; exact k1) (fun hc => by have k1 := k ls hl; rw [if_neg hc] at k1; exact k1)
      · cases hs
    case gt =>
      simp only [ab_s1] at hs
      split at hs
      · rename_i y x r
        cases hs
        exact lv_icmp_gt hx hb hdg htg (fun hc => by have k1 := k ls hl; rw [if_pos hc] at k1; exact k1) (fun hc => by have k1 := k ls hl; rw [if_neg hc] at k1; exact k1)
      · cases hs
    case le =>
      simp only [ab_s1] at hs
      split at hs
      · rename_i y x r
        cases hs
        exact lv_icmp_le hx hb hdg htg (fun hc => by have k1 := k ls hl; rw [if_pos hc] at k1; exact k1) (fun hc => by have k1 := k ls hl; rw [if_neg hc] at k1; exact k1)
      · cases hs
  all_goals (simp only [ab_s1] at hs; cases hs)
end AB1
