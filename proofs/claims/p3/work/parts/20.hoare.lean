/-! runs that end: a judgement and its rules -/
/-- what a run hangs on: the one unknown static, the script, the room; and a number, below which no string lies -/
abbrev xE : Type := Value × Nat × (Nat → Int32) × Nat × Nat × Nat
abbrev xr (e : xE) : Nat → Nat → Nat → Nat → ab_L → List Value → ab_H → Option (ab_O × ab_H) := ab_run x_cl x_ct x_cd x_aty (x_oa e.2.1 e.2.2.1) x_oo x_sb e.2.2.2.1 e.2.2.2.2.1 x_nc (x_mt e.1)
/-- the run ends, with an outcome and a heap of which Q holds -/
def xT (e : xE) (d mi pc : Nat) (L : ab_L) (S : List Value) (h : ab_H) (Q : ab_O → ab_H → Prop) : Prop := ∃ (o : ab_O) (h' : ab_H), (∃ K, ∀ n, xr e (n + K) d mi pc L S h = some (o, h')) ∧ Q o h'
section XT
variable {e : xE} {d mi pc pc' len tg j : Nat} {L L' : ab_L} {S S' as r : List Value} {h h2 : ab_H} {Q Q' : ab_O → ab_H → Prop} {M N : ab_M} {i : Instr}
theorem xT.mono (k : xT e d mi pc L S h Q) (hq : ∀ o h', Q o h' → Q' o h') : xT e d mi pc L S h Q' := by
  obtain ⟨o, h', hr, q⟩ := k
  exact ⟨o, h', hr, hq _ _ q⟩
theorem xT.seg (k : Nat) (hs : ∀ n, xr e (n + k) d mi pc L S h = xr e n d mi pc' L' S' h2) (t : xT e d mi pc' L' S' h2 Q) : xT e d mi pc L S h Q := by
  obtain ⟨o, h', ⟨K, hr⟩, q⟩ := t
  refine ⟨o, h', ⟨K + k, fun n => ?_⟩, q⟩
  rw [← Nat.add_assoc, hs, hr]
theorem xT.s1 (hM : (x_mt e.1)[mi]? = some M) (hf : ab_fe M pc = some (i, len, tg)) (h1 : ab_s1 (my_l M) i pc tg L S = some (pc', L', S')) (t : xT e d mi pc' L' S' h Q) : xT e d mi pc L S h Q := by
  refine xT.seg 1 (fun n => ?_) t
  show ab_run x_cl x_ct x_cd x_aty (x_oa e.2.1 e.2.2.1) x_oo x_sb e.2.2.2.1 e.2.2.2.2.1 x_nc (x_mt e.1) (n + 1) d mi pc L S h = _
  rw [ab_run, hM]
  simp only [hf, h1]
theorem xT.s2 (hM : (x_mt e.1)[mi]? = some M) (hf : ab_fe M pc = some (i, len, tg)) (h1 : ab_s1 (my_l M) i pc tg L S = none) (h2' : ab_s2 x_cl x_ct x_cd x_aty (x_oa e.2.1 e.2.2.1) e.2.2.2.1 e.2.2.2.2.1 (my_p M) ((my_y M).name == "<init>") i pc S h = some (pc', S', h2)) (t : xT e d mi pc' L S' h2 Q) : xT e d mi pc L S h Q := by
  refine xT.seg 1 (fun n => ?_) t
  show ab_run x_cl x_ct x_cd x_aty (x_oa e.2.1 e.2.2.1) x_oo x_sb e.2.2.2.1 e.2.2.2.2.1 x_nc (x_mt e.1) (n + 1) d mi pc L S h = _
  rw [ab_run, hM]
  simp only [hf, h1, h2']
theorem xT.ret {v : Option Value} (hM : (x_mt e.1)[mi]? = some M) (hf : ab_fe M pc = some (i, len, tg)) (h1 : ab_s1 (my_l M) i pc tg L S = none) (h2' : ab_s2 x_cl x_ct x_cd x_aty (x_oa e.2.1 e.2.2.1) e.2.2.2.1 e.2.2.2.2.1 (my_p M) ((my_y M).name == "<init>") i pc S h = none) (h3 : ab_rt M i S = some v) (q : Q (.inl v) h) : xT e d mi pc L S h Q := by
  refine ⟨.inl v, h, ⟨1, fun n => ?_⟩, q⟩
  show ab_run x_cl x_ct x_cd x_aty (x_oa e.2.1 e.2.2.1) x_oo x_sb e.2.2.2.1 e.2.2.2.2.1 x_nc (x_mt e.1) (n + 1) d mi pc L S h = _
  rw [ab_run, hM]
  simp only [hf, h1, h2', h3]
theorem xT.sw (hM : (x_mt e.1)[mi]? = some M) (hf : ab_fe M pc = some (i, len, tg)) (h1 : ab_s1 (my_l M) i pc tg L S = none) (h2' : ab_s2 x_cl x_ct x_cd x_aty (x_oa e.2.1 e.2.2.1) e.2.2.2.1 e.2.2.2.2.1 (my_p M) ((my_y M).name == "<init>") i pc S h = none) (h3 : ab_rt M i S = none) (h4 : ab_sw pc i S = some (pc', S')) (t : xT e d mi pc' L S' h Q) : xT e d mi pc L S h Q := by
  refine xT.seg 1 (fun n => ?_) t
  show ab_run x_cl x_ct x_cd x_aty (x_oa e.2.1 e.2.2.1) x_oo x_sb e.2.2.2.1 e.2.2.2.2.1 x_nc (x_mt e.1) (n + 1) d mi pc L S h = _
  rw [ab_run, hM]
  simp only [hf, h1, h2', h3, h4]
/-- a call: the callee's run, then on; what it throws passes out, or is caught -/
theorem xT.call (hM : (x_mt e.1)[mi]? = some M) (hf : ab_fe M pc = some (i, len, tg)) (h1 : ab_s1 (my_l M) i pc tg L S = none) (h2' : ab_s2 x_cl x_ct x_cd x_aty (x_oa e.2.1 e.2.2.1) e.2.2.2.1 e.2.2.2.2.1 (my_p M) ((my_y M).name == "<init>") i pc S h = none) (h3 : ab_rt M i S = none) (h4 : ab_sw pc i S = none) (h5 : ab_ob (my_p M) i S = none)
    (h6 : ab_call x_cl x_oo (x_mt e.1) (my_p M) i S h = some (j, as, r)) (hN : (x_mt e.1)[j]? = some N) (hc : ab_wt r + my_l N + 11 ≤ 64 ∧ (lg_sl as).length ≤ my_l N ∧ j ≠ 0) {Q1 : ab_O → ab_H → Prop} (t1 : xT e d j 0 (lv_args 0 as) [] h Q1)
    (t2 : ∀ (v : Option Value) (h2 : ab_H), Q1 (.inl v) h2 → xT e (d + 1) mi (pc + 3) L (v.toList ++ r) h2 Q)
    (t3 : ∀ (ce q : Nat) (h2 : ab_H), Q1 (.inr (ce, q)) h2 → (my_h M = [] ∧ Q (.inr (ce, q)) h2) ∨ (¬ my_h M = [] ∧ ab_isx h2 q ce = true ∧ ∃ hp, ab_hd M x_nc pc ce (my_h M) = some hp ∧ xT e (d + 1) mi hp L [.ref q] h2 Q)) : xT e (d + 1) mi pc L S h Q := by
  obtain ⟨o1, h1', ⟨K1, e1⟩, q1⟩ := t1
  have go : ∀ n, ab_run x_cl x_ct x_cd x_aty (x_oa e.2.1 e.2.2.1) x_oo x_sb e.2.2.2.1 e.2.2.2.2.1 x_nc (x_mt e.1) (n + K1) d j 0 (lv_args 0 as) [] h = some (o1, h1') := e1
  rcases o1 with v | ⟨ce, q⟩
  · obtain ⟨o, h', ⟨K2, e2⟩, q2⟩ := t2 v h1' q1
    have go2 : ∀ n, ab_run x_cl x_ct x_cd x_aty (x_oa e.2.1 e.2.2.1) x_oo x_sb e.2.2.2.1 e.2.2.2.2.1 x_nc (x_mt e.1) (n + K2) (d + 1) mi (pc + 3) L (v.toList ++ r) h1' = some (o, h') := e2
    refine ⟨o, h', ⟨K1 + K2 + 1, fun n => ?_⟩, q2⟩
    have a1 := go (n + K2)
    have a2 := go2 (n + K1)
    rw [show n + K2 + K1 = n + (K1 + K2) by omega] at a1
    rw [show n + K1 + K2 = n + (K1 + K2) by omega] at a2
    show ab_run x_cl x_ct x_cd x_aty (x_oa e.2.1 e.2.2.1) x_oo x_sb e.2.2.2.1 e.2.2.2.2.1 x_nc (x_mt e.1) (n + (K1 + K2) + 1) (d + 1) mi pc L S h = _
    rw [ab_run, hM]
    simp only [hf, h1, h2', h3, h4, h5, h6, hN, if_pos hc, a1, a2]
  · rcases t3 ce q h1' q1 with ⟨hh, q2⟩ | ⟨hh, hix, hp, hd, t4⟩
    · refine ⟨.inr (ce, q), h1', ⟨K1 + 1, fun n => ?_⟩, q2⟩
      have a1 := go n
      show ab_run x_cl x_ct x_cd x_aty (x_oa e.2.1 e.2.2.1) x_oo x_sb e.2.2.2.1 e.2.2.2.2.1 x_nc (x_mt e.1) (n + K1 + 1) (d + 1) mi pc L S h = _
      rw [ab_run, hM]
      simp only [hf, h1, h2', h3, h4, h5, h6, hN, if_pos hc, a1, if_pos hh]
    · obtain ⟨o, h', ⟨K2, e2⟩, q2⟩ := t4
      have go2 : ∀ n, ab_run x_cl x_ct x_cd x_aty (x_oa e.2.1 e.2.2.1) x_oo x_sb e.2.2.2.1 e.2.2.2.2.1 x_nc (x_mt e.1) (n + K2) (d + 1) mi hp L [.ref q] h1' = some (o, h') := e2
      refine ⟨o, h', ⟨K1 + K2 + 1, fun n => ?_⟩, q2⟩
      have a1 := go (n + K2)
      have a2 := go2 (n + K1)
      rw [show n + K2 + K1 = n + (K1 + K2) by omega] at a1
      rw [show n + K1 + K2 = n + (K1 + K2) by omega] at a2
      show ab_run x_cl x_ct x_cd x_aty (x_oa e.2.1 e.2.2.1) x_oo x_sb e.2.2.2.1 e.2.2.2.2.1 x_nc (x_mt e.1) (n + (K1 + K2) + 1) (d + 1) mi pc L S h = _
      rw [ab_run, hM]
      simp only [hf, h1, h2', h3, h4, h5, h6, hN, if_pos hc, a1, if_neg hh, if_pos hix, hd, a2]
end XT
/-! the heap's instructions, where a cell is known by a fact -/
section XH
variable {cl : List vw_C} {ct : Nat → Nat → FieldType} {cd : Nat → List Value} {aty : List FieldType} {oa : Nat → Option (FieldType × Nat × (Nat → Value))} {NC NS : Nat} {pl : Nat → Option ab_N} {ini : Bool} {x pc j a b k0 t n : Nat} {fl v : Value} {fs : List Value} {f : Nat → Value} {r : List Value} {h : ab_H}
theorem x2_get (hp : pl x = some (k0, a, b, fl)) (hk : k0 = 0 ∨ k0 = 8) (hj : h[j]? = some (.inr (a, fs))) (hv : fs[b]? = some v) : ab_s2 cl ct cd aty oa NC NS pl ini (.getfield x) pc (.ref j :: r) h = some (pc + 3, v :: r, h) := by
  simp only [ab_s2, hp, hj, hv, hk, and_self, if_true]
theorem x2_put (hp : pl x = some (k0, a, b, fl)) (hj : h[j]? = some (.inr (a, fs))) (hc : (k0 = 0 ∨ k0 = 8) ∧ a = a ∧ b < fs.length ∧ ab_ft (ct a b) v = true ∧ (((cl[a]?).map (fun q => (q.2.1 b).2.2.2)) = some false ∨ (k0 = 0 ∧ ini = true ∧ fl = .int 1))) : ab_s2 cl ct cd aty oa NC NS pl ini (.putfield x) pc (v :: .ref j :: r) h = some (pc + 3, r, h.set j (.inr (a, fs.set b v))) := by
  simp only [ab_s2, hp, hj]
  rw [if_pos ⟨hc.1, trivial, hc.2.2⟩]
theorem x2_bald (hj : h[j]? = some (.inl (t, n, f))) {y : Int32} (ht : aty[t]? = some .byte) (hi : ab_ix y n = true) : ab_s2 cl ct cd aty oa NC NS pl ini .baload pc (.int y :: .ref j :: r) h = some (pc + 1, f y.toNatClampNeg :: r, h) := by
  simp only [ab_s2, ab_ald, hj]
  rw [if_pos ⟨ht, hi⟩]
end XH
theorem x_ixN {k n : Nat} (h : k < n) (hn : n < 2 ^ 31) : ab_ix (nI k) n = true := by
  simp only [ab_ix, Bool.and_eq_true, Bool.not_eq_true', decide_eq_false_iff_not, decide_eq_true_eq]
  exact ⟨nI_pos (by omega), by rw [nI_clamp (by omega)]; exact h⟩
