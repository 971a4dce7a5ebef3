/-! rules for the walker -/
theorem ab_sz_set {h : ab_H} {j : Nat} {x0 x : ab_E} (hj : h[j]? = some x0) (hz : ab_sz1 x = ab_sz1 x0) : ab_sz (h.set j x) = ab_sz h := by
  have hl := (List.getElem?_eq_some_iff.mp hj).1
  have e0 : (h.set j x).map ab_sz1 = h.map ab_sz1 := by
    rw [List.map_set, hz]
    have e1 : (h.map ab_sz1)[j]? = some (ab_sz1 x0) := by rw [List.getElem?_map, hj]; rfl
    apply List.ext_getElem?
    intro i
    by_cases hi : i = j
    · subst hi
      rw [List.getElem?_set_self (by simpa using hl), e1]
    · rw [List.getElem?_set_ne (Ne.symm hi)]
  unfold ab_sz
  rw [e0]
/-- one cell has changed -/
def x_up (h : ab_H) (j : Nat) (h1 : ab_H) (x : ab_E) : Prop := h1[j]? = some x ∧ (∀ k, k ≠ j → h1[k]? = h[k]?) ∧ h1.length = h.length ∧ ab_sz h1 = ab_sz h
theorem x_up_set {h : ab_H} {j : Nat} {x0 x : ab_E} (hj : h[j]? = some x0) (hz : ab_sz1 x = ab_sz1 x0) : x_up h j (h.set j x) x :=
  ⟨List.getElem?_set_self (List.getElem?_eq_some_iff.mp hj).1, fun _ hk => List.getElem?_set_ne (Ne.symm hk), List.length_set, ab_sz_set hj hz⟩
/-- one cell has come -/
def x_nw (h h1 : ab_H) (x : ab_E) : Prop := h1[h.length]? = some x ∧ (∀ (k : Nat) (y : ab_E), h[k]? = some y → h1[k]? = some y) ∧ h1.length = h.length + 1 ∧ ab_sz h1 = ab_sz h + ab_sz1 x
theorem x_nw_push (h : ab_H) (x : ab_E) : x_nw h (h ++ [x]) x :=
  ⟨by rw [List.getElem?_append_right (Nat.le_refl _), Nat.sub_self]; rfl, fun k y hk => by rw [List.getElem?_append_left (List.getElem?_eq_some_iff.mp hk).1]; exact hk, by rw [List.length_append]; rfl, ab_sz_push h x⟩
theorem x_neq {h : ab_H} {q r : Nat} {x y : ab_E} (h1 : h[q]? = some x) (h2 : h[r]? = some y) (hn : x ≠ y) : q ≠ r := fun z => by
  subst z
  rw [h1] at h2
  exact hn (Option.some.inj h2)
theorem x_lt {h : ab_H} {q : Nat} {x : ab_E} (h1 : h[q]? = some x) : q < h.length := (List.getElem?_eq_some_iff.mp h1).1
/-- an outcome: an answer, or a throw -/
def x_Q (P : Option Value → ab_H → Prop) (E : Nat → Nat → ab_H → Prop) : ab_O → ab_H → Prop := fun o h => match o with
  | .inl v => P v h
  | .inr z => E z.1 z.2 h
section XR
variable {e : xE} {d mi pc pa pb len tg j x k0 a b : Nat} {L : ab_L} {S as r : List Value} {h : ab_H} {Q : ab_O → ab_H → Prop} {M N : ab_M} {c : Prop} {fl v : Value} {fs : List Value} {i : Instr}
theorem xT.br [Decidable c] (t1 : c → xT e d mi pa L S h Q) (t2 : ¬ c → xT e d mi pb L S h Q) : xT e d mi (if c then pa else pb) L S h Q := by
  by_cases hc : c
  · rw [if_pos hc]; exact t1 hc
  · rw [if_neg hc]; exact t2 hc
theorem xT.brT [Decidable c] (hc : c) (t1 : xT e d mi pa L S h Q) : xT e d mi (if c then pa else pb) L S h Q := by
  rw [if_pos hc]; exact t1
theorem xT.brF [Decidable c] (hc : ¬ c) (t1 : xT e d mi pb L S h Q) : xT e d mi (if c then pa else pb) L S h Q := by
  rw [if_neg hc]; exact t1
theorem xT.put (hM : (x_mt e.1)[mi]? = some M) (hf : ab_fe M pc = some (.putfield x, len, tg)) (hp : my_p M x = some (k0, a, b, fl)) (hj : h[j]? = some (.inr (a, fs))) (hk : k0 = 0 ∨ k0 = 8) (hb : b < fs.length) (hft : ab_ft (x_ct a b) v = true)
    (hfin : ((x_cl[a]?).map (fun q => (q.2.1 b).2.2.2)) = some false ∨ (k0 = 0 ∧ ((my_y M).name == "<init>") = true ∧ fl = .int 1))
    (t : ∀ (h1 : ab_H) (F1 : List Value), F1 = fs.set b v → h1 = h.set j (.inr (a, F1)) → x_up h j h1 (.inr (a, F1)) → F1[b]? = some v → (∀ i, i ≠ b → F1[i]? = fs[i]?) → F1.length = fs.length → xT e d mi (pc + 3) L r h1 Q) : xT e d mi pc L (v :: .ref j :: r) h Q :=
  xT.s2 hM hf rfl (x2_put hp hj ⟨hk, rfl, hb, hft, hfin⟩) (t _ _ rfl rfl (x_up_set hj (by show (fs.set b v).length = fs.length; rw [List.length_set])) (List.getElem?_set_self hb) (fun i hi => List.getElem?_set_ne (Ne.symm hi)) List.length_set)
/-- a call that may throw, in a method that catches nothing -/
theorem xT.ca (hM : (x_mt e.1)[mi]? = some M) (hf : ab_fe M pc = some (i, len, tg)) (h1 : ab_s1 (my_l M) i pc tg L S = none) (h2' : ab_s2 x_cl x_ct x_cd x_aty (x_oa e.2.1 e.2.2.1) e.2.2.2.1 e.2.2.2.2.1 (my_p M) ((my_y M).name == "<init>") i pc S h = none) (h3 : ab_rt M i S = none) (h4 : ab_sw pc i S = none) (h5 : ab_ob (my_p M) i S = none)
    (h6 : ab_call x_cl x_oo (x_mt e.1) (my_p M) i S h = some (j, as, r)) (hN : (x_mt e.1)[j]? = some N) (hc : ab_wt r + my_l N + 11 ≤ 64 ∧ (lg_sl as).length ≤ my_l N ∧ j ≠ 0) (hH : my_h M = []) {P : Option Value → ab_H → Prop} {E : Nat → Nat → ab_H → Prop} (t1 : xT e d j 0 (lv_args 0 as) [] h (x_Q P E))
    (t2 : ∀ (v : Option Value) (h2 : ab_H), P v h2 → xT e (d + 1) mi (pc + 3) L (v.toList ++ r) h2 Q) (t3 : ∀ (ce q : Nat) (h2 : ab_H), E ce q h2 → Q (.inr (ce, q)) h2) : xT e (d + 1) mi pc L S h Q :=
  xT.call hM hf h1 h2' h3 h4 h5 h6 hN hc t1 t2 (fun ce q h2 hE => Or.inl ⟨hH, t3 ce q h2 hE⟩)
theorem xT.new {ci : Nat} {q : vw_C} (hM : (x_mt e.1)[mi]? = some M) (hf : ab_fe M pc = some (.new x, len, tg)) (hp : my_p M x = some (2, ci, b, v)) (hq : x_cl[ci]? = some q) (r1 : h.length + 1 ≤ e.2.2.2.1) (r2 : ab_sz h + q.2.2 ≤ e.2.2.2.2.1)
    (t : ∀ h1, h1 = h ++ [.inr (ci, x_cd ci)] → x_nw h h1 (.inr (ci, x_cd ci)) → xT e d mi (pc + 3) L (.ref h.length :: S) h1 Q) : xT e d mi pc L S h Q := by
  refine xT.s2 hM hf rfl ?_ (t _ rfl (x_nw_push h _))
  simp only [ab_s2, hp, hq]
  rw [if_pos ⟨r1, r2⟩]
theorem x_clampN {k : Nat} (h : k < 2 ^ 31) : (nI k).toNatClampNeg = k := nI_clamp h
/-- elements of rows -/
theorem xT.bald {n k : Nat} {f : Nat → Value} (hM : (x_mt e.1)[mi]? = some M) (hf : ab_fe M pc = some (.baload, len, tg)) (hj : h[j]? = some (.inl (0, n, f))) (hk : k < n) (hn : n < 2 ^ 31) (t : xT e d mi (pc + 1) L (f k :: S) h Q) : xT e d mi pc L (.int (nI k) :: .ref j :: S) h Q := by
  refine xT.s2 hM hf rfl (x2_bald hj rfl (x_ixN hk hn)) ?_
  rw [x_clampN (by omega)]
  exact t
theorem xT.iald {n k : Nat} {f : Nat → Value} (hM : (x_mt e.1)[mi]? = some M) (hf : ab_fe M pc = some (.iaload, len, tg)) (hj : h[j]? = some (.inl (1, n, f))) (hk : k < n) (hn : n < 2 ^ 31) (t : xT e d mi (pc + 1) L (f k :: S) h Q) : xT e d mi pc L (.int (nI k) :: .ref j :: S) h Q := by
  refine xT.s2 hM hf rfl (pc' := pc + 1) (S' := f k :: S) (h2 := h) ?_ t
  simp only [ab_s2, ab_ald, hj]
  rw [if_pos ⟨rfl, x_ixN hk hn⟩, x_clampN (by omega)]
theorem xT.aald {t0 n k : Nat} {f : Nat → Value} (hM : (x_mt e.1)[mi]? = some M) (hf : ab_fe M pc = some (.aaload, len, tg)) (hj : h[j]? = some (.inl (t0, n, f))) (ht : (x_aty[t0]?).map ab_isR = some true) (hk : k < n) (hn : n < 2 ^ 31) (t : xT e d mi (pc + 1) L (f k :: S) h Q) : xT e d mi pc L (.int (nI k) :: .ref j :: S) h Q := by
  refine xT.s2 hM hf rfl (pc' := pc + 1) (S' := f k :: S) (h2 := h) ?_ t
  simp only [ab_s2, hj]
  rw [if_pos ⟨ht, x_ixN hk hn⟩, x_clampN (by omega)]
theorem xT.bast {n k : Nat} {f : Nat → Value} {y : Int32} (hM : (x_mt e.1)[mi]? = some M) (hf : ab_fe M pc = some (.bastore, len, tg)) (hj : h[j]? = some (.inl (0, n, f))) (hk : k < n) (hn : n < 2 ^ 31)
    (t : ∀ h1, h1 = h.set j (.inl (0, n, updV f k (.int y.toInt8.toInt32))) → x_up h j h1 (.inl (0, n, updV f k (.int y.toInt8.toInt32))) → xT e d mi (pc + 1) L S h1 Q) : xT e d mi pc L (.int y :: .int (nI k) :: .ref j :: S) h Q := by
  refine xT.s2 hM hf rfl ?_ (t _ rfl (x_up_set hj rfl))
  simp only [ab_s2, hj]
  rw [if_pos ⟨rfl, x_ixN hk hn⟩, x_clampN (by omega)]
theorem xT.iast {n k : Nat} {f : Nat → Value} {y : Int32} (hM : (x_mt e.1)[mi]? = some M) (hf : ab_fe M pc = some (.iastore, len, tg)) (hj : h[j]? = some (.inl (1, n, f))) (hk : k < n) (hn : n < 2 ^ 31)
    (t : ∀ h1, h1 = h.set j (.inl (1, n, updV f k (.int y))) → x_up h j h1 (.inl (1, n, updV f k (.int y))) → xT e d mi (pc + 1) L S h1 Q) : xT e d mi pc L (.int y :: .int (nI k) :: .ref j :: S) h Q := by
  refine xT.s2 hM hf rfl ?_ (t _ rfl (x_up_set hj rfl))
  simp only [ab_s2, hj]
  rw [if_pos ⟨rfl, x_ixN hk hn⟩, x_clampN (by omega)]
theorem xT.newi {m : Nat} (hM : (x_mt e.1)[mi]? = some M) (hf : ab_fe M pc = some (.newarray .int, len, tg)) (hm : m ≤ 65536) (r1 : h.length + 1 ≤ e.2.2.2.1) (r2 : ab_sz h + m ≤ e.2.2.2.2.1)
    (t : ∀ h1, h1 = h ++ [(.inl (1, m, fun _ => .int 0) : ab_E)] → x_nw h h1 (.inl (1, m, fun _ => .int 0)) → xT e d mi (pc + 2) L (.ref h.length :: S) h1 Q) : xT e d mi pc L (.int (nI m) :: S) h Q := by
  refine xT.s2 hM hf rfl ?_ (t _ rfl (x_nw_push h _))
  simp only [ab_s2, show x_aty.findIdx? (fun q => q == newarray.typeOf .int) = some 1 from by decide]
  rw [if_pos ⟨nI_pos (by omega), by rw [x_clampN (by omega)]; exact hm, r1, by rw [x_clampN (by omega)]; exact r2, by decide⟩, x_clampN (by omega)]
  rfl
end XR
