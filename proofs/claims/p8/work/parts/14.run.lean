/-! methods, the run, its soundness -/
/-- name, bytes, locals, type of the answer, number of parameters, static, handlers, pool, code (pc, instruction, length, target) -/
abbrev ab_M : Type := MethodName × ByteArray × Nat × Option FieldType × Nat × Bool × List (Nat × Nat × Nat × Nat) × (Nat → Option ab_N) × List (Nat × Instr × Nat × Nat)
abbrev my_y (M : ab_M) : MethodName := M.1
abbrev my_b (M : ab_M) : ByteArray := M.2.1
abbrev my_l (M : ab_M) : Nat := M.2.2.1
abbrev my_r (M : ab_M) : Option FieldType := M.2.2.2.1
abbrev my_n (M : ab_M) : Nat := M.2.2.2.2.1
abbrev my_s (M : ab_M) : Bool := M.2.2.2.2.2.1
abbrev my_h (M : ab_M) : List (Nat × Nat × Nat × Nat) := M.2.2.2.2.2.2.1
abbrev my_p (M : ab_M) : Nat → Option ab_N := M.2.2.2.2.2.2.2.1
abbrev my_c (M : ab_M) : List (Nat × Instr × Nat × Nat) := M.2.2.2.2.2.2.2.2
def ab_fe (M : ab_M) (pc : Nat) : Option (Instr × Nat × Nat) := ((my_c M).find? (fun q => q.1 == pc)).map (fun q => q.2)
/-- the code table is the bytes' own -/
def ab_ck (M : ab_M) : Prop := ∀ q ∈ my_c M, decode (my_b M) q.1 = .ok (q.2.1, q.2.2.1) ∧ (ab_len q.2.1 = 0 ∨ q.2.2.1 = ab_len q.2.1) ∧ ∀ off, ab_off q.2.1 = some off → (q.1 : Int) + off = (q.2.2.2 : Int)
theorem ab_fe_ok {M : ab_M} (hc : ab_ck M) {pc len tg : Nat} {i : Instr} (h : ab_fe M pc = some (i, len, tg)) : decode (my_b M) pc = .ok (i, len) ∧ (ab_len i = 0 ∨ len = ab_len i) ∧ ∀ off, ab_off i = some off → (pc : Int) + off = (tg : Int) := by
  unfold ab_fe at h
  cases hf : (my_c M).find? (fun q => q.1 == pc) with
  | none => rw [hf] at h; cases h
  | some q =>
    rw [hf] at h
    have h1 := List.mem_of_find?_eq_some hf
    have h2 : q.1 = pc := by
      have z := List.find?_some hf
      simpa using z
    have h3 : q.2 = (i, len, tg) := Option.some.inj h
    have h4 := hc q h1
    rw [h3, h2] at h4
    exact h4
/-- returns -/
def ab_rt (M : ab_M) (i : Instr) (S : List Value) : Option (Option Value) := match i, S with
  | .ireturn, [.int v] => (match my_r M with
    | some ty => if ab_ft ty (.int v) = true then some (some (.int v)) else none
    | none => none)
  | .lreturn, [.long v] => if my_r M = some .long then some (some (.long v)) else none
  | .areturn, [.ref v] => (match my_r M with
    | some (.object _) => some (some (.ref v))
    | some (.array _) => some (some (.ref v))
    | _ => none)
  | .areturn, [.null] => (match my_r M with
    | some (.object _) => some (some .null)
    | some (.array _) => some (some .null)
    | _ => none)
  | .return_, [] => if my_r M = none then some none else none
  | _, _ => none
/-- switches -/
def ab_sw (pc : Nat) (i : Instr) (S : List Value) : Option (Nat × List Value) := match i, S with
  | .tableswitch dflt lo hi offs, .int x :: r => if x.toInt < lo ∨ hi < x.toInt then (if 0 ≤ (pc : Int) + dflt then some (((pc : Int) + dflt).toNat, r) else none) else (match offs[(x.toInt - lo).toNat]? with
    | some off => if 0 ≤ (pc : Int) + off then some (((pc : Int) + off).toNat, r) else none
    | none => none)
  | .lookupswitch dflt ps, .int x :: r => if (ps.toList.zip (ps.toList.drop 1)).all (fun (a, next) => a.1 < next.1) = true ∧ 0 ≤ (pc : Int) + Op.lookupswitch.offset ps.toList dflt x.toInt then some (((pc : Int) + Op.lookupswitch.offset ps.toList dflt x.toInt).toNat, r) else none
  | _, _ => none
/-- a call: the method's number, its arguments, what is left on the stack -/
def ab_cs (cl : List vw_C) (mt : List ab_M) (pl : Nat → Option ab_N) (i : Instr) (S : List Value) (h : ab_H) : Option (Nat × List Value × List Value) := match i with
  | .invokestatic x => (match pl x with
    | some (1, j, _, _) => (match mt[j]? with
      | some N => if my_s N = true ∧ my_n N ≤ S.length then some (j, (S.take (my_n N)).reverse, S.drop (my_n N)) else none
      | none => none)
    | _ => none)
  | .invokevirtual x => (match pl x with
    | some (1, j, nst, _) => (match mt[j]? with
      | some N => (match S.drop (my_n N) with
        | .ref q :: r => (match h[q]? with
          | some (.inr (ci, _)) => if my_s N = false ∧ my_n N ≤ S.length ∧ (cl[ci]?).map (fun z => z.1) = some (my_y N).cls ∧ (nst = 2 ∨ nst = 3) then some (j, .ref q :: (S.take (my_n N)).reverse, r) else none
          | _ => none)
        | _ => none)
      | none => none)
    | _ => none)
  | .invokespecial x => (match pl x with
    | some (1, j, _, _) => (match mt[j]? with
      | some N => (match S.drop (my_n N) with
        | .ref q :: r => if my_s N = false ∧ my_n N ≤ S.length ∧ (my_y N).name = "<init>" ∧ my_r N = none ∧ my_h N = [] then some (j, .ref q :: (S.take (my_n N)).reverse, r) else none
        | _ => none)
      | none => none)
    | _ => none)
  | _ => none
/-- entries of a pool: 20 a method (number) that a receiver of class cr (number in cl) inherits; 21 the superclass's own method -/
def ab_cs5 (cl : List vw_C) (oo : Nat → Option (Nat × List Value)) (mt : List ab_M) (pl : Nat → Option ab_N) (i : Instr) (S : List Value) (h : ab_H) : Option (Nat × List Value × List Value) := match i with
  | .invokevirtual x => (match pl x with
    | some (20, j, cr, _) => (match mt[j]? with
      | some N => (match S.drop (my_n N) with
        | .ref q :: r => (match h[q]? with
          | some (.inr (ci, _)) => if my_s N = false ∧ my_n N ≤ S.length ∧ ci = cr then some (j, .ref q :: (S.take (my_n N)).reverse, r) else none
          | _ => none)
        | _ => none)
      | none => none)
    | some (1, j, nst, _) => (match mt[j]? with
      | some N => (match S.drop (my_n N) with
        | .float w :: r => (match oo w.toNat with
          | some (ci, _) => if my_s N = false ∧ my_n N ≤ S.length ∧ (cl[ci]?).map (fun z => z.1) = some (my_y N).cls ∧ nst = 2 then some (j, .float w :: (S.take (my_n N)).reverse, r) else none
          | _ => none)
        | _ => none)
      | none => none)
    | _ => none)
  | .invokespecial x => (match pl x with
    | some (21, j, _, _) => (match mt[j]? with
      | some N => (match S.drop (my_n N) with
        | .ref q :: r => (match h[q]? with
          | some (.inr (_, _)) => if my_s N = false ∧ my_n N ≤ S.length ∧ (my_y N).name ≠ "<init>" then some (j, .ref q :: (S.take (my_n N)).reverse, r) else none
          | _ => none)
        | _ => none)
      | none => none)
    | _ => none)
  | _ => none
def ab_call (cl : List vw_C) (oo : Nat → Option (Nat × List Value)) (mt : List ab_M) (pl : Nat → Option ab_N) (i : Instr) (S : List Value) (h : ab_H) : Option (Nat × List Value × List Value) := match ab_cs cl mt pl i S h with
  | some z => some z
  | none => ab_cs5 cl oo mt pl i S h
/-- Object's constructor -/
def ab_ob (pl : Nat → Option ab_N) (i : Instr) (S : List Value) : Option (List Value) := match i with
  | .invokespecial x => (match pl x, S with
    | some (5, _, _, _), .ref _ :: r => if ab_wt r ≤ 20 then some r else none
    | _, _ => none)
  | _ => none
/-- throw new E("text"): the class's number -/
def ab_th (M : ab_M) (pc : Nat) : Option (Nat × Nat × Nat × Nat) := match ab_fe M pc, ab_fe M (pc + 3), ab_fe M (pc + 4), ab_fe M (pc + 6), ab_fe M (pc + 9) with
  | some (.new a, _, _), some (.dup, _, _), some (.ldc b, _, _), some (.invokespecial d, _, _), some (.athrow, _, _) => (match my_p M a, my_p M b, my_p M d with
    | some (9, ce, _, _), some (7, _, _, .float _), some (10, cf, _, _) => if ce = cf ∧ my_h M = [] then some (ce, a, b, d) else none
    | _, _, _ => none)
  | _, _, _, _, _ => none
/-- throw new E() -/
def ab_th0 (M : ab_M) (pc : Nat) : Option (Nat × Nat × Nat) := match ab_fe M pc, ab_fe M (pc + 3), ab_fe M (pc + 4), ab_fe M (pc + 7) with
  | some (.new a, _, _), some (.dup, _, _), some (.invokespecial d, _, _), some (.athrow, _, _) => (match my_p M a, my_p M d with
    | some (9, ce, _, _), some (14, cf, _, _) => if ce = cf ∧ my_h M = [] then some (ce, a, d) else none
    | _, _ => none)
  | _, _, _, _ => none
/-- the handler of an exception of class ce thrown at pc: catch types are entries (11, class, ..) of the pool; nc: pairs of classes of which the first can't be cast to the second -/
def ab_hd (M : ab_M) (nc : List (Nat × Nat)) (pc ce : Nat) : List (Nat × Nat × Nat × Nat) → Option Nat
  | [] => none
  | q :: r => if q.1 ≤ pc ∧ pc < q.2.1 then (match my_p M q.2.2.2 with
      | some (11, cj, _, _) => if ce = cj then some q.2.2.1 else if (ce, cj) ∈ nc then ab_hd M nc pc ce r else none
      | _ => none) else ab_hd M nc pc ce r
def ab_isx (h : ab_H) (q ce : Nat) : Bool := match h[q]? with
  | some (.inr (c, _)) => c == ce
  | _ => false
theorem ab_isx_ok {h : ab_H} {q ce : Nat} (hq : ab_isx h q ce = true) : ∃ fs, h[q]? = some (.inr (ce, fs)) := by
  unfold ab_isx at hq
  split at hq
  · rename_i c fs he
    have : c = ce := by simpa using hq
    subst this
    exact ⟨fs, he⟩
  · cases hq
def ab_run (cl : List vw_C) (ct : Nat → Nat → FieldType) (cd : Nat → List Value) (aty : List FieldType) (oa : Nat → Option (FieldType × Nat × (Nat → Value))) (oo : Nat → Option (Nat × List Value)) (sb : List (Nat × Nat)) (NC NS : Nat) (nc : List (Nat × Nat)) (mt : List ab_M) : Nat → Nat → Nat → Nat → ab_L → List Value → ab_H → Option (ab_O × ab_H)
  | 0, _, _, _, _, _, _ => none
  | n + 1, d, mi, pc, L, S, h => match mt[mi]? with
    | none => none
    | some M => match ab_fe M pc with
      | none => none
      | some (i, _, tg) => match ab_s1 (my_l M) i pc tg L S with
        | some (pc', L', S') => ab_run cl ct cd aty oa oo sb NC NS nc mt n d mi pc' L' S' h
        | none => match ab_s2 cl ct cd aty oa NC NS (my_p M) ((my_y M).name == "<init>") i pc S h with
          | some (pc', S', h') => ab_run cl ct cd aty oa oo sb NC NS nc mt n d mi pc' L S' h'
          | none => match ab_rt M i S with
            | some v => some (.inl v, h)
            | none => match ab_sw pc i S with
              | some (pc', S') => ab_run cl ct cd aty oa oo sb NC NS nc mt n d mi pc' L S' h
              | none => match ab_ob (my_p M) i S with
                | some S' => ab_run cl ct cd aty oa oo sb NC NS nc mt n d mi (pc + 3) L S' h
                | none => match ab_call cl oo mt (my_p M) i S h with
                  | some (j, as, r) => (match d, mt[j]? with
                    | d' + 1, some N => if ab_wt r + my_l N + 11 ≤ 64 ∧ (lg_sl as).length ≤ my_l N ∧ j ≠ 0 then (match ab_run cl ct cd aty oa oo sb NC NS nc mt n d' j 0 (lv_args 0 as) [] h with
                        | some (.inl v, h') => ab_run cl ct cd aty oa oo sb NC NS nc mt n d mi (pc + 3) L (v.toList ++ r) h'
                        | some (.inr (ce, q), h') => if my_h M = [] then some (.inr (ce, q), h') else if ab_isx h' q ce = true then (match ab_hd M nc pc ce (my_h M) with
                          | some hp => ab_run cl ct cd aty oa oo sb NC NS nc mt n d mi hp L [.ref q] h'
                          | none => none) else none
                        | none => none) else none
                    | _, _ => none)
                  | none => match ab_th M pc with
                    | some (ce, _, _, _) => if h.length + 1 ≤ NC ∧ ab_sz h + 6 ≤ NS ∧ S = [] then some (.inr (ce, h.length), h ++ [.inr (ce, List.replicate 6 .null)]) else none
                    | none => match ab_th0 M pc with
                      | some (ce, _, _) => if h.length + 1 ≤ NC ∧ ab_sz h + 6 ≤ NS ∧ S = [] then some (.inr (ce, h.length), h ++ [.inr (ce, List.replicate 6 .null)]) else none
                      | none => match ab_s4 aty oa sb oo NC NS (my_p M) i pc tg S h with
                        | some (pc', S', h') => ab_run cl ct cd aty oa oo sb NC NS nc mt n d mi pc' L S' h'
                        | none => match ab_s5 aty sb oo NC NS (my_p M) i pc S h with
                          | some (pc', S', h') => ab_run cl ct cd aty oa oo sb NC NS nc mt n d mi pc' L S' h'
                          | none => none
