/-! rules for what the machine does last: statics, casts, rows of references (ab_s4); copies, class constants (ab_s5); Object's constructor; a throw of one's own -/
section XT3
variable {e : xE} {d mi pc pc' len tg : Nat} {L : ab_L} {S S' : List Value} {h h2 : ab_H} {Q : ab_O → ab_H → Prop} {M : ab_M} {i : Instr}
theorem xT.ob (hM : (x_mt e.1)[mi]? = some M) (hf : ab_fe M pc = some (i, len, tg)) (h1 : ab_s1 (my_l M) i pc tg L S = none) (h2' : ab_s2 x_cl x_ct x_cd x_aty (x_oa e.2.1 e.2.2.1) e.2.2.2.1 e.2.2.2.2.1 (my_p M) ((my_y M).name == "<init>") i pc S h = none) (h3 : ab_rt M i S = none) (h4 : ab_sw pc i S = none) (h5 : ab_ob (my_p M) i S = some S') (t : xT e d mi (pc + 3) L S' h Q) : xT e d mi pc L S h Q := by
  refine xT.seg 1 (fun n => ?_) t
  show ab_run x_cl x_ct x_cd x_aty (x_oa e.2.1 e.2.2.1) x_oo x_sb e.2.2.2.1 e.2.2.2.2.1 x_nc (x_mt e.1) (n + 1) d mi pc L S h = _
  rw [ab_run, hM]
  simp only [hf, h1, h2', h3, h4, h5]
theorem xT.s4 (hM : (x_mt e.1)[mi]? = some M) (hf : ab_fe M pc = some (i, len, tg)) (h1 : ab_s1 (my_l M) i pc tg L S = none) (h2' : ab_s2 x_cl x_ct x_cd x_aty (x_oa e.2.1 e.2.2.1) e.2.2.2.1 e.2.2.2.2.1 (my_p M) ((my_y M).name == "<init>") i pc S h = none) (h3 : ab_rt M i S = none) (h4 : ab_sw pc i S = none) (h5 : ab_ob (my_p M) i S = none) (h6 : ab_call x_cl x_oo (x_mt e.1) (my_p M) i S h = none) (h7 : ab_th M pc = none) (h8 : ab_th0 M pc = none)
    (h9 : ab_s4 x_aty (x_oa e.2.1 e.2.2.1) x_sb x_oo e.2.2.2.1 e.2.2.2.2.1 (my_p M) i pc tg S h = some (pc', S', h2)) (t : xT e d mi pc' L S' h2 Q) : xT e d mi pc L S h Q := by
  refine xT.seg 1 (fun n => ?_) t
  show ab_run x_cl x_ct x_cd x_aty (x_oa e.2.1 e.2.2.1) x_oo x_sb e.2.2.2.1 e.2.2.2.2.1 x_nc (x_mt e.1) (n + 1) d mi pc L S h = _
  rw [ab_run, hM]
  simp only [hf, h1, h2', h3, h4, h5, h6, h7, h8, h9]
theorem xT.s5 (hM : (x_mt e.1)[mi]? = some M) (hf : ab_fe M pc = some (i, len, tg)) (h1 : ab_s1 (my_l M) i pc tg L S = none) (h2' : ab_s2 x_cl x_ct x_cd x_aty (x_oa e.2.1 e.2.2.1) e.2.2.2.1 e.2.2.2.2.1 (my_p M) ((my_y M).name == "<init>") i pc S h = none) (h3 : ab_rt M i S = none) (h4 : ab_sw pc i S = none) (h5 : ab_ob (my_p M) i S = none) (h6 : ab_call x_cl x_oo (x_mt e.1) (my_p M) i S h = none) (h7 : ab_th M pc = none) (h8 : ab_th0 M pc = none)
    (h9 : ab_s4 x_aty (x_oa e.2.1 e.2.2.1) x_sb x_oo e.2.2.2.1 e.2.2.2.2.1 (my_p M) i pc tg S h = none) (h10 : ab_s5 x_aty x_sb x_oo e.2.2.2.1 e.2.2.2.2.1 (my_p M) i pc S h = some (pc', S', h2)) (t : xT e d mi pc' L S' h2 Q) : xT e d mi pc L S h Q := by
  refine xT.seg 1 (fun n => ?_) t
  show ab_run x_cl x_ct x_cd x_aty (x_oa e.2.1 e.2.2.1) x_oo x_sb e.2.2.2.1 e.2.2.2.2.1 x_nc (x_mt e.1) (n + 1) d mi pc L S h = _
  rw [ab_run, hM]
  simp only [hf, h1, h2', h3, h4, h5, h6, h7, h8, h9, h10]
/-- throw new E() -/
theorem xT.th0 (hM : (x_mt e.1)[mi]? = some M) (hf : ab_fe M pc = some (i, len, tg)) (h1 : ab_s1 (my_l M) i pc tg L S = none) (h2' : ab_s2 x_cl x_ct x_cd x_aty (x_oa e.2.1 e.2.2.1) e.2.2.2.1 e.2.2.2.2.1 (my_p M) ((my_y M).name == "<init>") i pc S h = none) (h3 : ab_rt M i S = none) (h4 : ab_sw pc i S = none) (h5 : ab_ob (my_p M) i S = none) (h6 : ab_call x_cl x_oo (x_mt e.1) (my_p M) i S h = none) (h7 : ab_th M pc = none) {ce x1 x3 : Nat} (h8 : ab_th0 M pc = some (ce, x1, x3)) (hS : S = [])
    (hr : h.length + 1 ≤ e.2.2.2.1 ∧ ab_sz h + 6 ≤ e.2.2.2.2.1) (q : Q (.inr (ce, h.length)) (h ++ [.inr (ce, List.replicate 6 .null)])) : xT e d mi pc L S h Q := by
  refine ⟨_, _, ⟨1, fun n => ?_⟩, q⟩
  show ab_run x_cl x_ct x_cd x_aty (x_oa e.2.1 e.2.2.1) x_oo x_sb e.2.2.2.1 e.2.2.2.2.1 x_nc (x_mt e.1) (n + 1) d mi pc L S h = _
  rw [ab_run, hM]
  simp only [hf, h1, h2', h3, h4, h5, h6, h7, h8]
  rw [if_pos ⟨hr.1, hr.2, hS⟩]
end XT3
section XC2
variable {cl : List vw_C} {oo : Nat → Option (Nat × List Value)} {mt : List ab_M} {pl : Nat → Option ab_N} {x j nst q ci : Nat} {v : Value} {fs S r : List Value} {h : ab_H} {N : ab_M}
theorem xc_stat (hp : pl x = some (1, j, nst, v)) (hN : mt[j]? = some N) (hc : my_s N = true ∧ my_n N ≤ S.length) : ab_call cl oo mt pl (.invokestatic x) S h = some (j, (S.take (my_n N)).reverse, S.drop (my_n N)) := by
  have z : ab_cs cl mt pl (.invokestatic x) S h = some (j, (S.take (my_n N)).reverse, S.drop (my_n N)) := by
    simp only [ab_cs, hp, hN]
    rw [if_pos hc]
  unfold ab_call
  rw [z]
theorem xc_init (hp : pl x = some (1, j, nst, v)) (hN : mt[j]? = some N) (hd : S.drop (my_n N) = .ref q :: r) (hc : my_s N = false ∧ my_n N ≤ S.length ∧ (my_y N).name = "<init>" ∧ my_r N = none ∧ my_h N = []) : ab_call cl oo mt pl (.invokespecial x) S h = some (j, .ref q :: (S.take (my_n N)).reverse, r) := by
  have z : ab_cs cl mt pl (.invokespecial x) S h = some (j, .ref q :: (S.take (my_n N)).reverse, r) := by
    simp only [ab_cs, hp, hN, hd]
    rw [if_pos hc]
  unfold ab_call
  rw [z]
theorem xc_inh {cr : Nat} (hp : pl x = some (20, j, cr, v)) (hN : mt[j]? = some N) (hd : S.drop (my_n N) = .ref q :: r) (hq : h[q]? = some (.inr (cr, fs))) (hc : my_s N = false ∧ my_n N ≤ S.length) : ab_call cl oo mt pl (.invokevirtual x) S h = some (j, .ref q :: (S.take (my_n N)).reverse, r) := by
  have z0 : ab_cs cl mt pl (.invokevirtual x) S h = none := by simp only [ab_cs, hp]
  have z : ab_cs5 cl oo mt pl (.invokevirtual x) S h = some (j, .ref q :: (S.take (my_n N)).reverse, r) := by
    simp only [ab_cs5, hp, hN, hd, hq]
    rw [if_pos ⟨hc.1, hc.2, trivial⟩]
  unfold ab_call
  rw [z0]
  exact z
theorem xc_sup {cr : Nat} (hp : pl x = some (21, j, cr, v)) (hN : mt[j]? = some N) (hd : S.drop (my_n N) = .ref q :: r) (hq : h[q]? = some (.inr (ci, fs))) (hc : my_s N = false ∧ my_n N ≤ S.length ∧ (my_y N).name ≠ "<init>") : ab_call cl oo mt pl (.invokespecial x) S h = some (j, .ref q :: (S.take (my_n N)).reverse, r) := by
  have z0 : ab_cs cl mt pl (.invokespecial x) S h = none := by simp only [ab_cs, hp]
  have z : ab_cs5 cl oo mt pl (.invokespecial x) S h = some (j, .ref q :: (S.take (my_n N)).reverse, r) := by
    simp only [ab_cs5, hp, hN, hd, hq]
    rw [if_pos hc]
  unfold ab_call
  rw [z0]
  exact z
end XC2
