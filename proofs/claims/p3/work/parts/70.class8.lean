/-! the class: refuse and demand -/
/-- refused: the exception lies there; the tape is empty, and the list -/
def c_EX (h : ab_H) (q0 qt qb ql qa : Nat) (gb : Nat → Int32) (cap c5 z : Nat) (ce xq : Nat) (h' : ab_H) : Prop := ce = 7 ∧ (∃ fs, h'[xq]? = some (.inr (7, fs))) ∧ (∃ (th ta qe cap' : Nat) (kh : Int32) (bh eh : Nat) (ka : Int32) (ba ea : Nat), c_S h' q0 qt qb ql th ta qa qe gb 0 cap' 0 kh bh eh ka ba ea ∧ cap ≤ cap' ∧ cap' ≤ 17010 ∧ 5 * h'.length + cap ≤ 5 * h.length + c5 + cap' ∧ ab_sz h' + 4 * cap ≤ ab_sz h + z + 4 * cap') ∧ c_fr h h' qb ql ∧ h.length ≤ h'.length
section XCU
variable {e : xE} {d q0 qt qb ql th ta qa qe len cap sz bh eh ba ea : Nat} {gb : Nat → Int32} {h h' : ab_H} {kh ka : Int32}
theorem c_EX.pre {h1 : ab_H} {cap1 c5 z c5' z' ce xq : Nat} (k : c_EX h1 q0 qt qb ql qa gb cap1 c5 z ce xq h') (fr : c_fr h h1 qb ql) (hc : cap ≤ cap1) (hl : h.length ≤ h1.length) (h5 : 5 * h1.length + cap + c5 ≤ 5 * h.length + c5' + cap1) (hz : ab_sz h1 + 4 * cap + z ≤ ab_sz h + z' + 4 * cap1) : c_EX h q0 qt qb ql qa gb cap c5' z' ce xq h' := by
  obtain ⟨k1, k2, ⟨th, ta, qe, cap', kh, bh, eh, ka, ba, ea, k3, k4, k5, k6, k7⟩, k8, k9⟩ := k
  exact ⟨k1, k2, ⟨th, ta, qe, cap', kh, bh, eh, ka, ba, ea, k3, by omega, k5, by omega, by omega⟩, fr.tr k8, by omega⟩
/-- the tape's length, or the object's place, changes -/
theorem c_S.len2 {len2 : Nat} {Ft Ft' : List Value} (hS : c_S h q0 qt qb ql th ta qa qe gb len cap sz kh bh eh ka ba ea) (ht0 : h[qt]? = some (.inr (1, Ft))) (u : x_up h qt h' (.inr (1, Ft'))) (hl : Ft'.length = Ft.length) (fb : Ft'[3]? = some (.int (nI len2))) (fo : ∀ i, i ≠ 3 → Ft'[i]? = Ft[i]?) (h4 : len2 ≤ 4096) : c_S h' q0 qt qb ql th ta qa qe gb len2 cap sz kh bh eh ka ba ea ∧ c_fr h h' qb ql ∧ c_10 h h' := by
  obtain ⟨⟨F0, hq, r0⟩, ⟨Fx, gl, kp, ht, lt, t0, t1, t2, t3, t4, t5, hb8, hl8, k4, l4, hne⟩, hH, hA, hht, ⟨Fa, ef, ha, la, f1, f2, hd, hs, hc, hN⟩, hY⟩ := hS
  have eF : Fx = Ft := by rw [ht0] at ht; cases ht; rfl
  subst eF
  have ko : ∀ (k ci : Nat) (F : List Value), h[k]? = some (.inr (ci, F)) → ci ≠ 1 → h'[k]? = some (.inr (ci, F)) := fun k ci F hk hc => (u.2.1 k (x_neq hk ht0 (by simp; omega))).trans hk
  have kr : ∀ (k t n : Nat) (f : Nat → Value), h[k]? = some (.inl (t, n, f)) → h'[k]? = some (.inl (t, n, f)) := fun k t n f hk => (u.2.1 k (x_neq hk ht0 (by simp))).trans hk
  have k10 : c_10 h h' := fun k F hk => ⟨F, ko _ _ _ hk (by decide)⟩
  refine ⟨⟨⟨F0, ko _ _ _ hq (by decide), r0⟩, ⟨Ft', gl, kp, u.1, hl.trans lt, (fo 0 (by decide)).trans t0, (fo 1 (by decide)).trans t1, (fo 2 (by decide)).trans t2, fb, (fo 4 (by decide)).trans t4, (fo 5 (by decide)).trans t5, kr _ _ _ _ hb8, kr _ _ _ _ hl8, k4, h4, hne⟩, hH.kept (fun F hk => ko _ _ _ hk (by decide)), hA.kept (fun F hk => ko _ _ _ hk (by decide)), hht, ⟨Fa, ef, ko _ _ _ ha (by decide), la, f1, f2, ?_, hs, hc, fun i hi => (hN i hi).kept k10⟩, fun k F hk => hY k F (x_rev_up u (by simp) hk)⟩, fun k x hk n1 n2 n3 n4 => ?_, k10⟩
  · rcases hd with z | ⟨z1, z2, z3⟩
    · exact Or.inl z
    · exact Or.inr ⟨z1, kr _ _ _ _ z2, z3⟩
  · exact (u.2.1 k (fun z => by subst z; rw [ht0] at hk; exact absurd rfl (n3 1 Fx (Option.some.inj hk).symm).2.1)).trans hk
theorem c_S.plc {x : Int32} {F0 F0' : List Value} (hS : c_S h q0 qt qb ql th ta qa qe gb len cap sz kh bh eh ka ba ea) (hq0 : h[q0]? = some (.inr (0, F0))) (u : x_up h q0 h' (.inr (0, F0'))) (hl : F0'.length = F0.length) (fb : F0'[2]? = some (.int x)) (fo : ∀ i, i ≠ 2 → F0'[i]? = F0[i]?) : c_S h' q0 qt qb ql th ta qa qe gb len cap sz kh bh eh ka ba ea ∧ c_fr h h' qb ql ∧ c_10 h h' := by
  obtain ⟨⟨Fx, hq, lq, p0, p1, p2⟩, ⟨Ft, gl, kp, ht, lt, t0, t1, t2, t3, t4, t5, hb8, hl8, r1⟩, hH, hA, hht, ⟨Fa, ef, ha, la, f1, f2, hd, hs, hc, hN⟩, hY⟩ := hS
  have eF : Fx = F0 := by rw [hq0] at hq; cases hq; rfl
  subst eF
  have ko : ∀ (k ci : Nat) (F : List Value), h[k]? = some (.inr (ci, F)) → ci ≠ 0 → h'[k]? = some (.inr (ci, F)) := fun k ci F hk hc => (u.2.1 k (x_neq hk hq0 (by simp; omega))).trans hk
  have kr : ∀ (k t n : Nat) (f : Nat → Value), h[k]? = some (.inl (t, n, f)) → h'[k]? = some (.inl (t, n, f)) := fun k t n f hk => (u.2.1 k (x_neq hk hq0 (by simp))).trans hk
  have k10 : c_10 h h' := fun k F hk => ⟨F, ko _ _ _ hk (by decide)⟩
  refine ⟨⟨⟨F0', u.1, hl.trans lq, (fo 0 (by decide)).trans p0, (fo 1 (by decide)).trans p1, _, fb⟩, ⟨Ft, gl, kp, ko _ _ _ ht (by decide), lt, t0, t1, t2, t3, t4, t5, kr _ _ _ _ hb8, kr _ _ _ _ hl8, r1⟩, hH.kept (fun F hk => ko _ _ _ hk (by decide)), hA.kept (fun F hk => ko _ _ _ hk (by decide)), hht, ⟨Fa, ef, ko _ _ _ ha (by decide), la, f1, f2, ?_, hs, hc, fun i hi => (hN i hi).kept k10⟩, fun k F hk => hY k F (x_rev_up u (by simp) hk)⟩, fun k x hk n1 n2 n3 n4 => ?_, k10⟩
  · rcases hd with z | ⟨z1, z2, z3⟩
    · exact Or.inl z
    · exact Or.inr ⟨z1, kr _ _ _ _ z2, z3⟩
  · exact (u.2.1 k (fun z => by subst z; rw [hq0] at hk; exact absurd rfl (n3 0 Fx (Option.some.inj hk).symm).1)).trans hk
theorem c_refuse (hS : c_S h q0 qt qb ql th ta qa qe gb len cap sz kh bh eh ka ba ea) (hcap : cap ≤ 17010) (r1 : h.length + 1 ≤ e.2.2.2.1) (r2 : ab_sz h + 6 ≤ e.2.2.2.2.1) : xT e (d + 1) 116 0 [(0, .ref q0)] [] h (x_Q (fun v h' => False) (fun ce xq h' => c_EX h q0 qt qb ql qa gb cap 5 6 ce xq h')) := by
  have hM : (x_mt e.1)[116]? = some xM116 := rfl
  obtain ⟨⟨F0, hq, lq, p0, p1, ⟨zp, p2⟩⟩, ⟨Ft, gl, kp, hT⟩, hH, hA, hht, ⟨Fa, ef, hL⟩, hY⟩ := id hS
  obtain ⟨ht, lt, t0, t1, t2, t3, t4, t5, hb8, hl8, k4, l4, hne⟩ := id hT
  obtain ⟨Fh, u0, u1, u2, u3, u5, ⟨x3, u6⟩, ⟨x4, u7⟩, ⟨x5, u8⟩⟩ := id hH
  obtain ⟨Fx, w0, w1, w2, w3, w5, ⟨y3, w6⟩, ⟨y4, w7⟩, ⟨y5, w8⟩⟩ := id hA
  have ha := hL.1
  refine xT.s1 hM rfl rfl ?_
  refine xT.s1 hM rfl rfl ?_
  refine xT.s2 hM rfl rfl (x2_get rfl (Or.inl rfl) hq p0) ?_
  refine xT.s2 hM rfl rfl (x2_get rfl (Or.inl rfl) ht t4) ?_
  refine xT.s2 hM rfl rfl (x2_get rfl (Or.inl rfl) u0 u3) ?_
  refine xT.put hM rfl rfl hq (Or.inl rfl) (by rw [lq]; decide) (rfl) (Or.inl rfl) (fun h1 F1 eF eh up1 fb fo fl => ?_)
  obtain ⟨hS1, fa1, tb1⟩ := hS.plc hq up1 fl fb fo
  replace hS := hS1
  obtain ⟨⟨F0, hq, lq, p0, p1, ⟨zp, p2⟩⟩, ⟨Ft, gl, kp, hT⟩, hH, hA, hht, ⟨Fa, ef, hL⟩, hY⟩ := id hS
  obtain ⟨ht, lt, t0, t1, t2, t3, t4, t5, hb8, hl8, k4, l4, hne⟩ := id hT
  obtain ⟨Fh, u0, u1, u2, u3, u5, ⟨x3, u6⟩, ⟨x4, u7⟩, ⟨x5, u8⟩⟩ := id hH
  obtain ⟨Fx, w0, w1, w2, w3, w5, ⟨y3, w6⟩, ⟨y4, w7⟩, ⟨y5, w8⟩⟩ := id hA
  have ha := hL.1
  refine xT.s1 hM rfl rfl ?_
  refine xT.s2 hM rfl rfl (x2_get rfl (Or.inl rfl) hq p1) ?_
  refine xT.go hM rfl rfl rfl rfl rfl rfl (xc_virt rfl rfl rfl ha ⟨rfl, Nat.le_of_ble_eq_true rfl, rfl, Or.inl rfl⟩) rfl ⟨Nat.le_of_ble_eq_true rfl, Nat.le_of_ble_eq_true rfl, by decide⟩ (c_clear hL) (fun v h2 hv => ?_)
  obtain ⟨rfl, Fa2, ef2, y1, y2, y3, y4, y5⟩ := hv
  obtain ⟨hS2, fa2, tb2⟩ := hS.lst y1 y2 y5
  replace hS := hS2
  obtain ⟨⟨F0, hq, lq, p0, p1, ⟨zp, p2⟩⟩, ⟨Ft, gl, kp, hT⟩, hH, hA, hht, ⟨Fa, ef, hL⟩, hY⟩ := id hS
  obtain ⟨ht, lt, t0, t1, t2, t3, t4, t5, hb8, hl8, k4, l4, hne⟩ := id hT
  obtain ⟨Fh, u0, u1, u2, u3, u5, ⟨x3, u6⟩, ⟨x4, u7⟩, ⟨x5, u8⟩⟩ := id hH
  obtain ⟨Fx, w0, w1, w2, w3, w5, ⟨y3, w6⟩, ⟨y4, w7⟩, ⟨y5, w8⟩⟩ := id hA
  have ha := hL.1
  refine xT.s1 hM rfl rfl ?_
  refine xT.s2 hM rfl rfl (x2_get rfl (Or.inl rfl) hq p0) ?_
  refine xT.s1 hM rfl rfl ?_
  refine xT.put hM rfl rfl ht (Or.inl rfl) (by rw [lt]; decide) (rfl) (Or.inl rfl) (fun h3 F3 eF eh up3 fb fo fl => ?_)
  obtain ⟨hS3, fa3, tb3⟩ := hS.len2 (len2 := 0) ht up3 fl fb fo (by omega)
  have l1 := up1.2.2.1
  have l3 := up3.2.2.1
  have z1 := up1.2.2.2
  have z3 := up3.2.2.2
  have w := x_nw_push h3 (.inr (7, List.replicate 6 .null))
  have hS4 := hS3.ext w.2.1 (fun k F hk => hS3.2.2.2.2.2.2 k F (x_rev_nw rfl (by simp) hk))
  have l4 := w.2.2.1
  have z4 : ab_sz (h3 ++ [(.inr (7, List.replicate 6 .null) : ab_E)]) = ab_sz h3 + 6 := w.2.2.2
  have fa4 : c_fr h3 (h3 ++ [(.inr (7, List.replicate 6 .null) : ab_E)]) qb ql := fun k x hk _ _ _ _ => w.2.1 k x hk
  exact xT.th hM rfl rfl rfl rfl rfl rfl rfl rfl rfl ⟨by omega, by omega⟩ ⟨rfl, ⟨_, w.1⟩, ⟨_, _, _, cap, _, _, _, _, _, _, hS4, Nat.le_refl _, hcap, by omega, by omega⟩, ((fa1.tr fa2).tr fa3).tr fa4, by omega⟩
theorem c_demand {c : Int32} (hS : c_S h q0 qt qb ql th ta qa qe gb len cap sz kh bh eh ka ba ea) (hcap : cap ≤ 17010) (r1 : h.length + 1 ≤ e.2.2.2.1) (r2 : ab_sz h + 6 ≤ e.2.2.2.2.1) : xT e (d + 2) 115 0 [(0, .ref q0), (1, .int c)] [] h (x_Q (fun v h' => v = none ∧ h' = h ∧ kh = c) (fun ce xq h' => c_EX h q0 qt qb ql qa gb cap 5 6 ce xq h')) := by
  have hM : (x_mt e.1)[115]? = some xM115 := rfl
  obtain ⟨⟨F0, hq, lq, p0, p1, ⟨zp, p2⟩⟩, ⟨Ft, gl, kp, hT⟩, hH, hA, hht, ⟨Fa, ef, hL⟩, hY⟩ := id hS
  obtain ⟨ht, lt, t0, t1, t2, t3, t4, t5, hb8, hl8, k4, l4, hne⟩ := id hT
  obtain ⟨Fh, u0, u1, u2, u3, u5, ⟨x3, u6⟩, ⟨x4, u7⟩, ⟨x5, u8⟩⟩ := id hH
  obtain ⟨Fx, w0, w1, w2, w3, w5, ⟨y3, w6⟩, ⟨y4, w7⟩, ⟨y5, w8⟩⟩ := id hA
  have ha := hL.1
  refine xT.s1 hM rfl rfl ?_
  refine xT.s2 hM rfl rfl (x2_get rfl (Or.inl rfl) hq p0) ?_
  refine xT.s2 hM rfl rfl (x2_get rfl (Or.inl rfl) ht t4) ?_
  refine xT.s2 hM rfl rfl (x2_get rfl (Or.inl rfl) u0 u2) ?_
  refine xT.s1 hM rfl rfl ?_
  refine xT.s1 hM rfl rfl ?_
  refine xT.br (fun b0 => ?_) (fun b0 => ?_)
  · exact xT.ret hM rfl rfl rfl rfl (⟨rfl, rfl, b0⟩)
  · refine xT.s1 hM rfl rfl ?_
    refine xT.ca hM rfl rfl rfl rfl rfl rfl (xc_virt rfl rfl rfl hq ⟨rfl, Nat.le_of_ble_eq_true rfl, rfl, Or.inl rfl⟩) rfl ⟨Nat.le_of_ble_eq_true rfl, Nat.le_of_ble_eq_true rfl, by decide⟩ rfl (c_refuse hS hcap r1 r2) (fun v h2 hv => ?_) (fun ce xq h2 he => he)
    exact hv.elim
/-- the tokens are whole -/
def c_V (h : ab_H) (q0 qt qb ql th ta qa qe : Nat) (gb : Nat → Int32) (len cap sz : Nat) (kh : Int32) (bh eh : Nat) (ka : Int32) (ba ea : Nat) : Prop := c_S h q0 qt qb ql th ta qa qe gb len cap sz kh bh eh ka ba ea ∧ c_ok kh bh eh len ∧ c_ok ka ba ea len ∧ eh ≤ ba ∧ bh ≤ len ∧ ba ≤ len
theorem c_ok.le {kd : Int32} {b en : Nat} (k : c_ok kd b en len) : en ≤ len := by
  rcases k with z | z <;> omega
/-- advance between whole states -/
theorem c_advV (hE : e.1 = .null ∨ ∃ w, e.1 = .float w) (hV : c_V h q0 qt qb ql th ta qa qe gb len cap sz kh bh eh ka ba ea) : xT e (d + 7) 126 0 [(0, .ref qt)] [] h (fun o h' => ∃ v, o = .inl v ∧ v = none ∧ ∃ (kd : Int32) (bb en : Nat), c_V h' q0 qt qb ql ta th qa qe gb len cap sz ka ba ea kd bb en ∧ (kh ≠ 26 → kh ≠ 27 → bh < ba) ∧ c_fr h h' qb ql ∧ c_10 h h' ∧ h'.length = h.length ∧ ab_sz h' = ab_sz h) := by
  obtain ⟨hS, o1, o2, l1, l2, l3⟩ := hV
  refine (c_advS hE hS o2.le).mono (fun o h' ho => ?_)
  obtain ⟨v, y1, y2, kd, bb, en, y3, y4, y5, y6, y7, y8, y9, y10⟩ := ho
  refine ⟨v, y1, y2, kd, bb, en, ⟨y3, o2, y4, y5, l3, y6⟩, fun n1 n2 => ?_, y7, y8, y9, y10⟩
  rcases o1 with z | z
  · rcases z.1 with y | y
    · exact absurd y n1
    · exact absurd y n2
  · omega
end XCU
