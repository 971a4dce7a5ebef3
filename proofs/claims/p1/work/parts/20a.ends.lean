/-! the law's run comes to its end with 1: rules; and how the kernel alone can see it of a run with free names in it -/
def x_one (r : Option (ab_O × ab_H)) : Bool := match r with
  | some (.inl (some (.int v)), _) => v == 1
  | _ => false
theorem x_one_ok {r : Option (ab_O × ab_H)} (h : x_one r = true) : ∃ h', r = some (.inl (some (.int 1)), h') := by
  unfold x_one at h
  split at h
  · rename_i v h'
    have e : v = 1 := by simpa using h
    subst e
    exact ⟨_, rfl⟩
  · cases h
/-- a test that the one thing passes which would fail it, if any did, all things pass: so a closed term stands for every value -/
theorem x_every {T : Type} (t0 : T) (b : T → Bool) (h : b (@Classical.epsilon T ⟨t0⟩ (fun t => b t = false)) = true) (t : T) : b t = true := by
  cases e : b t with
  | true => rfl
  | false =>
    have z := @Classical.epsilon_spec T (fun t => b t = false) ⟨t, e⟩
    exact absurd (h.symm.trans z) (by decide)
def x_G (L : Nat) (xs : Nat → Int32) (d mi pc : Nat) (Lc : ab_L) (S : List Value) (h : ab_H) : Prop := ∃ K, ∀ n, x_one (xr L xs (n + K) d mi pc Lc S h) = true
section XG
variable {L : Nat} {xs : Nat → Int32} {d mi pc pc' : Nat} {Lc Lc' : ab_L} {S S' : List Value} {h h2 : ab_H}
theorem xg_seg (k : Nat) (hs : ∀ n, xr L xs (n + k) d mi pc Lc S h = xr L xs n d mi pc' Lc' S' h2) (e : x_G L xs d mi pc' Lc' S' h2) : x_G L xs d mi pc Lc S h := by
  obtain ⟨K, e⟩ := e
  refine ⟨K + k, fun n => ?_⟩
  rw [← Nat.add_assoc, hs, e]
variable {M N : ab_M} {i : Instr} {len tg j : Nat} {as r : List Value}
theorem xg_ret (hM : x_mt[mi]? = some M) (hf : ab_fe M pc = some (i, len, tg)) (h1 : ab_s1 (my_l M) i pc tg Lc S = none) (h2' : ab_s2 x_cl x_ct x_cd x_aty (x_oa L xs) 600002 7302232 (my_p M) ((my_y M).name == "<init>") i pc S h = none) (h3 : ab_rt M i S = none) (h4 : ab_sw pc i S = none) (h5 : ab_ob (my_p M) i S = none)
    (h6 : ab_cs x_cl x_mt (my_p M) i S h = some (j, as, r)) (hN : x_mt[j]? = some N) (hc : ab_wt r + my_l N + 11 ≤ 64 ∧ (lg_sl as).length ≤ my_l N ∧ j ≠ 0) {v : Option Value} (e1 : xv L xs d j 0 (lv_args 0 as) [] h (.inl v) h2) (e2 : x_G L xs (d + 1) mi (pc + 3) Lc (v.toList ++ r) h2) : x_G L xs (d + 1) mi pc Lc S h := by
  obtain ⟨K1, e1⟩ := e1
  obtain ⟨K2, e2⟩ := e2
  refine ⟨K1 + K2 + 1, fun n => ?_⟩
  have a1 := e1 (n + K2)
  have a2 := e2 (n + K1)
  rw [show n + K2 + K1 = n + (K1 + K2) by omega] at a1
  rw [show n + K1 + K2 = n + (K1 + K2) by omega] at a2
  show x_one (ab_run x_cl x_ct x_cd x_aty (x_oa L xs) x_oo x_sb 600002 7302232 x_nc x_mt (n + (K1 + K2) + 1) (d + 1) mi pc Lc S h) = _
  rw [ab_run, hM]
  simp only [hf, h1, h2', h3, h4, h5, h6, hN, if_pos hc]
  rw [show ab_run x_cl x_ct x_cd x_aty (x_oa L xs) x_oo x_sb 600002 7302232 x_nc x_mt (n + (K1 + K2)) d j 0 (lv_args 0 as) [] h = some (.inl v, h2) from a1]
  exact a2
end XG
