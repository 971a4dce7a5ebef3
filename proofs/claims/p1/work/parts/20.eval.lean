/-! the law's run, evaluated: rules -/
abbrev xr (L : Nat) (xs : Nat → Int32) : Nat → Nat → Nat → Nat → ab_L → List Value → ab_H → Option (ab_O × ab_H) := ab_run x_cl x_ct x_cd x_aty (x_oa L xs) x_oo x_sb 600002 7302232 x_nc x_mt
def xv (L : Nat) (xs : Nat → Int32) (d mi pc : Nat) (Lc : ab_L) (S : List Value) (h : ab_H) (o : ab_O) (h' : ab_H) : Prop := ∃ K, ∀ n, xr L xs (n + K) d mi pc Lc S h = some (o, h')
section XV
variable {L : Nat} {xs : Nat → Int32} {d mi pc pc' mi' : Nat} {Lc Lc' : ab_L} {S S' : List Value} {h h2 h' : ab_H} {o : ab_O}
theorem xv_seg (k : Nat) (hs : ∀ n, xr L xs (n + k) d mi pc Lc S h = xr L xs n d mi pc' Lc' S' h2) (e : xv L xs d mi pc' Lc' S' h2 o h') : xv L xs d mi pc Lc S h o h' := by
  obtain ⟨K, e⟩ := e
  refine ⟨K + k, fun n => ?_⟩
  rw [← Nat.add_assoc, hs, e]
variable {M N : ab_M} {i : Instr} {len tg j : Nat} {as r : List Value}
theorem xv_ret (hM : x_mt[mi]? = some M) (hf : ab_fe M pc = some (i, len, tg)) (h1 : ab_s1 (my_l M) i pc tg Lc S = none) (h2' : ab_s2 x_cl x_ct x_cd x_aty (x_oa L xs) 600002 7302232 (my_p M) ((my_y M).name == "<init>") i pc S h = none) (h3 : ab_rt M i S = none) (h4 : ab_sw pc i S = none) (h5 : ab_ob (my_p M) i S = none)
    (h6 : ab_cs x_cl x_mt (my_p M) i S h = some (j, as, r)) (hN : x_mt[j]? = some N) (hc : ab_wt r + my_l N + 11 ≤ 64 ∧ (lg_sl as).length ≤ my_l N ∧ j ≠ 0) {v : Option Value} (e1 : xv L xs d j 0 (lv_args 0 as) [] h (.inl v) h2) (e2 : xv L xs (d + 1) mi (pc + 3) Lc (v.toList ++ r) h2 o h') : xv L xs (d + 1) mi pc Lc S h o h' := by
  obtain ⟨K1, e1⟩ := e1
  obtain ⟨K2, e2⟩ := e2
  refine ⟨K1 + K2 + 1, fun n => ?_⟩
  have a1 := e1 (n + K2)
  have a2 := e2 (n + K1)
  rw [show n + K2 + K1 = n + (K1 + K2) by omega] at a1
  rw [show n + K1 + K2 = n + (K1 + K2) by omega] at a2
  show ab_run x_cl x_ct x_cd x_aty (x_oa L xs) x_oo x_sb 600002 7302232 x_nc x_mt (n + (K1 + K2) + 1) (d + 1) mi pc Lc S h = _
  rw [ab_run, hM]
  simp only [hf, h1, h2', h3, h4, h5, h6, hN, if_pos hc]
  rw [show ab_run x_cl x_ct x_cd x_aty (x_oa L xs) x_oo x_sb 600002 7302232 x_nc x_mt (n + (K1 + K2)) d j 0 (lv_args 0 as) [] h = some (.inl v, h2) from a1]
  exact a2
theorem xv_pass (hM : x_mt[mi]? = some M) (hf : ab_fe M pc = some (i, len, tg)) (h1 : ab_s1 (my_l M) i pc tg Lc S = none) (h2' : ab_s2 x_cl x_ct x_cd x_aty (x_oa L xs) 600002 7302232 (my_p M) ((my_y M).name == "<init>") i pc S h = none) (h3 : ab_rt M i S = none) (h4 : ab_sw pc i S = none) (h5 : ab_ob (my_p M) i S = none)
    (h6 : ab_cs x_cl x_mt (my_p M) i S h = some (j, as, r)) (hN : x_mt[j]? = some N) (hc : ab_wt r + my_l N + 11 ≤ 64 ∧ (lg_sl as).length ≤ my_l N ∧ j ≠ 0) (hh : my_h M = []) {ce q : Nat} (e1 : xv L xs d j 0 (lv_args 0 as) [] h (.inr (ce, q)) h') : xv L xs (d + 1) mi pc Lc S h (.inr (ce, q)) h' := by
  obtain ⟨K1, e1⟩ := e1
  refine ⟨K1 + 1, fun n => ?_⟩
  have a1 := e1 n
  show ab_run x_cl x_ct x_cd x_aty (x_oa L xs) x_oo x_sb 600002 7302232 x_nc x_mt (n + K1 + 1) (d + 1) mi pc Lc S h = _
  rw [ab_run, hM]
  simp only [hf, h1, h2', h3, h4, h5, h6, hN, if_pos hc]
  rw [show ab_run x_cl x_ct x_cd x_aty (x_oa L xs) x_oo x_sb 600002 7302232 x_nc x_mt (n + K1) d j 0 (lv_args 0 as) [] h = some (.inr (ce, q), h') from a1]
  simp only [if_pos hh]
theorem xv_catch (hM : x_mt[mi]? = some M) (hf : ab_fe M pc = some (i, len, tg)) (h1 : ab_s1 (my_l M) i pc tg Lc S = none) (h2' : ab_s2 x_cl x_ct x_cd x_aty (x_oa L xs) 600002 7302232 (my_p M) ((my_y M).name == "<init>") i pc S h = none) (h3 : ab_rt M i S = none) (h4 : ab_sw pc i S = none) (h5 : ab_ob (my_p M) i S = none)
    (h6 : ab_cs x_cl x_mt (my_p M) i S h = some (j, as, r)) (hN : x_mt[j]? = some N) (hc : ab_wt r + my_l N + 11 ≤ 64 ∧ (lg_sl as).length ≤ my_l N ∧ j ≠ 0) (hh : ¬ my_h M = []) {ce q hp : Nat} (e1 : xv L xs d j 0 (lv_args 0 as) [] h (.inr (ce, q)) h2) (hix : ab_isx h2 q ce = true) (hd : ab_hd M x_nc pc ce (my_h M) = some hp) (e2 : xv L xs (d + 1) mi hp Lc [.ref q] h2 o h') : xv L xs (d + 1) mi pc Lc S h o h' := by
  obtain ⟨K1, e1⟩ := e1
  obtain ⟨K2, e2⟩ := e2
  refine ⟨K1 + K2 + 1, fun n => ?_⟩
  have a1 := e1 (n + K2)
  have a2 := e2 (n + K1)
  rw [show n + K2 + K1 = n + (K1 + K2) by omega] at a1
  rw [show n + K1 + K2 = n + (K1 + K2) by omega] at a2
  show ab_run x_cl x_ct x_cd x_aty (x_oa L xs) x_oo x_sb 600002 7302232 x_nc x_mt (n + (K1 + K2) + 1) (d + 1) mi pc Lc S h = _
  rw [ab_run, hM]
  simp only [hf, h1, h2', h3, h4, h5, h6, hN, if_pos hc]
  rw [show ab_run x_cl x_ct x_cd x_aty (x_oa L xs) x_oo x_sb 600002 7302232 x_nc x_mt (n + (K1 + K2)) d j 0 (lv_args 0 as) [] h = some (.inr (ce, q), h2) from a1]
  simp only [if_neg hh, if_pos hix, hd]
  exact a2
end XV
