/-! calls on an object that a fact knows; no throw -/
section XC
variable {cl : List vw_C} {oo : Nat → Option (Nat × List Value)} {mt : List ab_M} {pl : Nat → Option ab_N} {x j nst q ci : Nat} {v : Value} {fs S r : List Value} {h : ab_H} {N : ab_M}
theorem xc_virt (hp : pl x = some (1, j, nst, v)) (hN : mt[j]? = some N) (hd : S.drop (my_n N) = .ref q :: r) (hq : h[q]? = some (.inr (ci, fs))) (hc : my_s N = false ∧ my_n N ≤ S.length ∧ (cl[ci]?).map (fun z => z.1) = some (my_y N).cls ∧ (nst = 2 ∨ nst = 3)) : ab_call cl oo mt pl (.invokevirtual x) S h = some (j, .ref q :: (S.take (my_n N)).reverse, r) := by
  have z : ab_cs cl mt pl (.invokevirtual x) S h = some (j, .ref q :: (S.take (my_n N)).reverse, r) := by
    simp only [ab_cs, hp, hN, hd, hq]
    rw [if_pos hc]
  unfold ab_call
  rw [z]
end XC
section XT2
variable {e : xE} {d mi pc len tg j : Nat} {L : ab_L} {S as r : List Value} {h : ab_H} {Q : ab_O → ab_H → Prop} {M N : ab_M} {i : Instr}
/-- a call that comes back -/
theorem xT.go (hM : (x_mt e.1)[mi]? = some M) (hf : ab_fe M pc = some (i, len, tg)) (h1 : ab_s1 (my_l M) i pc tg L S = none) (h2' : ab_s2 x_cl x_ct x_cd x_aty (x_oa e.2.1 e.2.2.1) e.2.2.2.1 e.2.2.2.2.1 (my_p M) ((my_y M).name == "<init>") i pc S h = none) (h3 : ab_rt M i S = none) (h4 : ab_sw pc i S = none) (h5 : ab_ob (my_p M) i S = none)
    (h6 : ab_call x_cl x_oo (x_mt e.1) (my_p M) i S h = some (j, as, r)) (hN : (x_mt e.1)[j]? = some N) (hc : ab_wt r + my_l N + 11 ≤ 64 ∧ (lg_sl as).length ≤ my_l N ∧ j ≠ 0) {V : Option Value → ab_H → Prop} (t1 : xT e d j 0 (lv_args 0 as) [] h (fun o h' => ∃ v, o = .inl v ∧ V v h'))
    (t2 : ∀ (v : Option Value) (h2 : ab_H), V v h2 → xT e (d + 1) mi (pc + 3) L (v.toList ++ r) h2 Q) : xT e (d + 1) mi pc L S h Q :=
  xT.call hM hf h1 h2' h3 h4 h5 h6 hN hc t1 (fun v h2 ⟨v', e1, q⟩ => by cases e1; exact t2 v h2 q) (fun ce q h2 ⟨v', e1, _⟩ => by cases e1)
end XT2
