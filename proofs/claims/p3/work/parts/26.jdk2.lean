/-! the JDK: rows of bytes copied -/
section XH2
variable {cl : List vw_C} {ct : Nat → Nat → FieldType} {cd : Nat → List Value} {oa : Nat → Option (FieldType × Nat × (Nat → Value))} {NC NS : Nat} {pl : Nat → Option ab_N} {ini : Bool} {pc j t n : Nat} {f : Nat → Value} {r : List Value} {h : ab_H}
theorem x2_alen (hj : h[j]? = some (.inl (t, n, f))) (ht : t < x_aty.length) : ab_s2 cl ct cd x_aty oa NC NS pl ini .arraylength pc (.ref j :: r) h = some (pc + 1, .int (nI n) :: r, h) := by
  simp only [ab_s2, hj]
  rw [if_pos ht]
  rfl
theorem x2_newb {m : Nat} (hm : m ≤ 65536) (h1 : h.length + 1 ≤ NC) (h2 : ab_sz h + m ≤ NS) : ab_s2 cl ct cd x_aty oa NC NS pl ini (.newarray .byte) pc (.int (nI m) :: r) h = some (pc + 2, .ref h.length :: r, h ++ [(.inl (0, m, fun _ => .int 0) : ab_E)]) := by
  have hc : ¬ nI m < 0 ∧ (nI m).toNatClampNeg ≤ 65536 ∧ h.length + 1 ≤ NC ∧ ab_sz h + (nI m).toNatClampNeg ≤ NS ∧ ArrayType.byte ≠ ArrayType.float := by
    rw [nI_clamp (by omega)]
    exact ⟨nI_pos (by omega), hm, h1, h2, by decide⟩
  have hidx : x_aty.findIdx? (fun q => q == newarray.typeOf .byte) = some 0 := by decide
  simp only [ab_s2, hidx]
  rw [if_pos hc, nI_clamp (by omega)]
  rfl
end XH2
/-- a row of bytes -/
def j_B (h : ab_H) (q n : Nat) (f : Nat → Int32) : Prop := h[q]? = some (.inl (0, n, fun j => .int (f j))) ∧ ∀ j, fits .byte (.int (f j)) = true
/-- copied: n of f, then 0 -/
def j_cp (f : Nat → Int32) (n : Nat) : Nat → Int32 := fun j => if j < n then f j else 0
theorem j_cp_fits {f : Nat → Int32} {n : Nat} (hf : ∀ j, fits .byte (.int (f j)) = true) : ∀ j, fits .byte (.int (j_cp f n j)) = true := fun j => by
  unfold j_cp
  by_cases hj : j < n
  · rw [if_pos hj]; exact hf j
  · rw [if_neg hj]; decide
theorem j_cp_eq (f : Nat → Int32) (n : Nat) : va_cpy (fun j => Value.int (f j)) (fun _ => .int 0) 0 0 n = fun j => .int (j_cp f n j) := by
  funext j
  unfold va_cpy j_cp
  by_cases hj : j < n
  · rw [if_pos ⟨Nat.zero_le _, by omega⟩, if_pos hj]
    simp
  · rw [if_neg (by omega), if_neg hj]
section XJ2
variable {e : xE} {d q n m : Nat} {f : Nat → Int32} {h : ab_H}
/-- a longer copy -/
theorem j_copyOf (hB : j_B h q n f) (hnm : n < m) (hm : m ≤ 65536) (r1 : h.length + 1 ≤ e.2.2.2.1) (r2 : ab_sz h + m ≤ e.2.2.2.2.1) : xT e (d + 1) 63 0 [(0, .ref q), (1, .int (nI m))] [] h (fun o h' => ∃ v, o = .inl v ∧ v = some (.ref h.length) ∧ h' = h ++ [.inl (0, m, fun j => .int (j_cp f n j))]) := by
  obtain ⟨hq, hf⟩ := hB
  have hM : (x_mt e.1)[63]? = some xM63 := rfl
  refine xT.s1 hM rfl rfl ?_
  refine xT.s1 hM rfl rfl ?_
  refine xT.s2 hM rfl rfl (x2_alen hq (by decide)) ?_
  refine xT.s1 hM rfl rfl ?_
  rw [if_neg (fun z => absurd ((nI_eq (by omega) (by omega)).mp z) (by omega))]
  refine xT.s1 hM rfl rfl ?_
  refine xT.s2 hM rfl rfl (x2_newb hm r1 r2) ?_
  have hl := (List.getElem?_eq_some_iff.mp hq).1
  have hq' : (h ++ [(.inl (0, m, fun _ => .int 0) : ab_E)])[q]? = some (.inl (0, n, fun j => .int (f j))) := by rw [List.getElem?_append_left hl]; exact hq
  have hn' : (h ++ [(.inl (0, m, fun _ => .int 0) : ab_E)])[h.length]? = some (.inl (0, m, fun _ => .int 0)) := by simp
  have hset : (h ++ [(.inl (0, m, fun _ => .int 0) : ab_E)]).set h.length (.inl (0, m, fun j => .int (j_cp f n j))) = h ++ [(.inl (0, m, fun j => .int (j_cp f n j)) : ab_E)] := by simp
  generalize h ++ [(.inl (0, m, fun _ => .int 0) : ab_E)] = k at hq' hn' hset
  refine xT.s1 hM rfl rfl ?_
  refine xT.s1 hM rfl rfl ?_
  refine xT.s1 hM rfl rfl ?_
  refine xT.s1 hM rfl rfl ?_
  refine xT.s1 hM rfl rfl ?_
  refine xT.s1 hM rfl rfl ?_
  refine xT.s2 hM rfl rfl (x2_alen hq' (by decide)) ?_
  refine xT.s1 hM rfl rfl ?_
  refine xT.go hM rfl rfl rfl rfl rfl rfl (xc_stat rfl rfl ⟨rfl, Nat.le_of_ble_eq_true rfl⟩) rfl ⟨Nat.le_of_ble_eq_true rfl, Nat.le_of_ble_eq_true rfl, by decide⟩ (j_min (nI n) (nI m)) (fun v h2 hv => ?_)
  obtain ⟨rfl, hh2⟩ := hv
  subst h2
  rw [if_neg (nI_nlt (by omega) (by omega))]
  refine xT.s5 hM rfl rfl rfl rfl rfl rfl rfl rfl rfl rfl (pc' := 31) (S' := []) (h2 := k.set h.length (.inl (0, m, va_cpy (fun j => Value.int (f j)) (fun _ => .int 0) (Int32.ofInt 0).toNatClampNeg (Int32.ofInt 0).toNatClampNeg (nI n).toNatClampNeg))) ?_ ?_
  · have hcp : ab_cpb x_aty x_sb x_oo k 0 n m (fun j => .int (f j)) (Int32.ofInt 0) (Int32.ofInt 0) (nI n) = true := by
      unfold ab_cpb
      rw [show x_aty[0]? = some .byte from rfl]
      simp only [Bool.and_eq_true, Bool.not_eq_true', decide_eq_false_iff_not, decide_eq_true_eq, List.all_eq_true, List.mem_range]
      rw [nI_clamp (by omega), show (Int32.ofInt 0).toNatClampNeg = 0 from by decide]
      exact ⟨⟨⟨⟨⟨by decide, by decide⟩, nI_pos (by omega)⟩, by omega⟩, by omega⟩, fun i _ => hf _⟩
    show (match k[q]?, k[h.length]? with
      | some (.inl (t, n0, f0)), some (.inl (u, n1, g0)) => if t = u ∧ ab_wt [] ≤ 20 ∧ ab_cpb x_aty x_sb x_oo k t n0 n1 f0 (Int32.ofInt 0) (Int32.ofInt 0) (nI n) = true then some (_, [], k.set h.length (.inl (u, n1, va_cpy f0 g0 (Int32.ofInt 0).toNatClampNeg (Int32.ofInt 0).toNatClampNeg (nI n).toNatClampNeg))) else none
      | _, _ => none) = _
    rw [hq', hn']
    simp only
    rw [if_pos ⟨trivial, by decide, hcp⟩]
  · rw [nI_clamp (by omega), show (Int32.ofInt 0).toNatClampNeg = 0 from by decide, j_cp_eq, hset]
    refine xT.s1 hM rfl rfl ?_
    exact xT.ret hM rfl rfl rfl rfl ⟨_, rfl, rfl, rfl⟩
end XJ2
