/-! the reference: value, names and braces -/
section XVD
variable {e : xE} {d q q8 tp fr a o N : Nat} {gb : Nat → Int32} {h : ab_H} {F : List Value} {t : Int32} {w : Value}
theorem m_valD (hE : e.1 = .null ∨ ∃ w, e.1 = .float w) (hc : m_ws e) (hP : m_P e h q q8 gb F tp fr a t w (nI o)) (hr : m_rm e h gb tp fr a t) (ho : o ≤ 60) (HV : m_VC e q q8 gb tp N) (hN0 : tp - fr < N + 1) (ht : t = 4) : xT e (d + 2 * (60 - o) + 14) 30 198 [(1, .int (nI fr)), (0, .ref q)] [] h (x_Q (m_VN e h q q8 gb F tp fr a t o) (m_VE e h q q8 gb F tp fr a t)) := by
  have hM : (x_mt e.1)[30]? = some xM30 := rfl
  have hx := hr.x hP
  have hrx : x_rm e h := ⟨by have := hx.1; omega, by have := hx.2; omega⟩
  have hql := x_lt hP.cell
  have hfr := hP.frl
  have hps := hP.ps
  have hres := m_res_le hP
  have ht0 : t ≠ 0 ∧ t ≠ 1 := by rw [ht]; decide
  obtain ⟨ns, hw⟩ : ∃ n, j_str e h w n := by
    rcases hP.2.1.1 with z | z
    · rw [ht] at z; exact absurd z (by decide)
    · exact z.2
  obtain ⟨sw, rfl⟩ := hP.2.1.2.2 ht
  obtain ⟨⟨⟨hq, hl, f1, f2, f6, f7, ⟨z8, f8⟩, ⟨n9, f9⟩, f10, f11, h8, htp⟩, rest, fr0⟩, hk, hC, p1, p2, p4⟩ := id hP
  refine xT.s1 hM rfl rfl ?_
  refine xT.s1 hM rfl rfl ?_
  refine xT.ca hM rfl rfl rfl rfl rfl rfl (xc_virt rfl rfl rfl hq ⟨rfl, Nat.le_of_ble_eq_true rfl, rfl, Or.inl rfl⟩) rfl ⟨Nat.le_of_ble_eq_true rfl, Nat.le_of_ble_eq_true rfl, by decide⟩ rfl (m_take hE hP hrx (by decide)) (fun v n1 hv => ?_) (fun ce xq h2 he => m_VE.now hP he (Nat.le_refl _) (Nat.le_refl _))
  obtain ⟨-, rfl, fr1, a1, F1, t1, wt1, hP1, hN1, q1, q2, q3⟩ := hv
  have q4 := q3 ht0.1 ht0.2
  have ps1 := hP1.ps
  have rs1 := m_res_le hP1
  have f1t := hP1.frl
  have hw1 := hw.kept hN1.2.1 hP.cell (by decide)
  have c1 := hN1.2.2.1
  have c2 := hN1.2.2.2.1
  have c3 := hN1.2.2.2.2
  have r1 := hr.1
  have r2 := hr.2
  refine xT.s1 hM rfl rfl ?_
  refine xT.s1 hM rfl rfl ?_
  refine xT.s2 hM rfl rfl rfl ?_
  refine xT.go hM rfl rfl rfl rfl rfl rfl (xc_virt rfl rfl rfl hP1.cell ⟨rfl, Nat.le_of_ble_eq_true rfl, rfl, Or.inl rfl⟩) rfl ⟨Nat.le_of_ble_eq_true rfl, Nat.le_of_ble_eq_true rfl, by decide⟩ (m_is hP1 (hc _ (by simp))) (fun v n2 hv => ?_)
  obtain ⟨b, rfl, hb1, hb2, hh2⟩ := hv
  subst n2
  refine xT.s1 hM rfl rfl ?_
  refine xT.br (fun bb => ?_) (fun bb => ?_)
  · refine xT.new hM rfl rfl rfl (by omega) (by show ab_sz _ + 9 ≤ _; omega) (fun m1 en w1 => ?_)
    have l1 := w1.2.2.1
    have s1 : ab_sz m1 = ab_sz n1 + 9 := w1.2.2.2
    have hPn := hP1.ext w1.2.1
    refine xT.s1 hM rfl rfl ?_
    refine xT.s1 hM rfl rfl ?_
    refine xT.s1 hM rfl rfl ?_
    refine xT.go hM rfl rfl rfl rfl rfl rfl (xc_init rfl rfl rfl ⟨rfl, Nat.le_of_ble_eq_true rfl, rfl, rfl, rfl⟩) rfl ⟨Nat.le_of_ble_eq_true rfl, Nat.le_of_ble_eq_true rfl, by decide⟩ (m_vinit w1.1 (by omega) (by omega)) (fun v n2 hv => ?_)
    obtain ⟨rfl, G, hV, g0, g1, g4, g3, fr2, l2, s2⟩ := hv
    have ext2 : ∀ (k : Nat) (x : ab_E), n1[k]? = some x → n2[k]? = some x := fun k x hk => fr2 k x (w1.2.1 _ _ hk) (by have := x_lt hk; omega)
    have hP2 := hP1.ext ext2
    have hN2 : m_N n1 q F1 32 15 n2 F1 := m_N.ext ext2 (by omega) (by omega) (by omega)
    have hVx := hV
    refine xT.s1 hM rfl rfl ?_
    refine xT.s1 hM rfl rfl ?_
    refine xT.s1 hM rfl rfl ?_
    refine xT.put hM rfl rfl hVx.1 (Or.inr rfl) (by rw [hVx.2.1]; decide) (rfl) (Or.inl rfl) (fun p_1 G_1 eF eh up fb fo fl => ?_)
    have hV4 := hVx.put up fl fo (by decide)
    have hw4 := (hw1.ext ext2).kept (fun k x hk hn => (up.2.1 k hn).trans hk) hV.1 (by decide)
    have hP4 := hP2.oth (fun k x hk hn => (up.2.1 k hn).trans hk) hV.1 (by decide) (by decide)
    have l4 := up.2.2.1
    have s4 := up.2.2.2
    refine xT.s1 hM rfl rfl ?_
    have hT4 : m_T (60 - o + 1) e p_1 h.length p_1.length n1.length 1 := m_T.leaf ⟨hV4, ⟨4, (fo 0 (by decide)).trans g0, by omega, fun z => by omega, .ref sw, fb, Or.inr ⟨_, hw4⟩, fun z => by omega⟩, ⟨_, (fo 1 (by decide)).trans g1⟩, ⟨_, (fo 3 (by decide)).trans g3⟩, ⟨by omega, by omega⟩, ⟨by omega, by omega⟩, ⟨by omega, by omega⟩, ⟨by omega, by omega⟩⟩
    have nq : ∀ (k : Nat) (x : ab_E), h[k]? = some x → k ≠ q → p_1[k]? = some x := fun k x hk hn => (up.2.1 k (by have := x_lt hk; omega)).trans (ext2 k x (hN1.2.1 k x hk hn))
    exact xT.ret hM rfl rfl rfl rfl (⟨n1.length, 1, fr1, a1, F1, t1, wt1, 33 * m_res gb tp a + 32, 29 * m_res gb tp a + 15, rfl, hP4, hT4, q4, by omega, by omega, ⟨hN1.1, nq, by omega, by omega, by omega⟩, by omega, by omega⟩)
  · refine xT.s1 hM rfl rfl ?_
    refine xT.ca hM rfl rfl rfl rfl rfl rfl (xc_virt rfl rfl rfl hP1.cell ⟨rfl, Nat.le_of_ble_eq_true rfl, rfl, Or.inl rfl⟩) rfl ⟨Nat.le_of_ble_eq_true rfl, Nat.le_of_ble_eq_true rfl, by decide⟩ rfl (m_open hP1 ⟨by omega, by omega⟩ ho) (fun v n2 hv => ?_) (fun ce xq h2 he => ⟨_, _, he.pre hN1 (Nat.le_refl _) (Nat.le_refl _), by omega, by omega⟩)
    obtain ⟨rfl, ho1, F2, hP2, hN2⟩ := hv
    have d1 := hN2.2.2.1
    have d2 := hN2.2.2.2.1
    have d3 := hN2.2.2.2.2
    refine xT.s1 hM rfl rfl ?_
    refine xT.go hM rfl rfl rfl rfl rfl rfl (xc_virt rfl rfl rfl hP2.cell ⟨rfl, Nat.le_of_ble_eq_true rfl, rfl, Or.inl rfl⟩) rfl ⟨Nat.le_of_ble_eq_true rfl, Nat.le_of_ble_eq_true rfl, by decide⟩ (m_adv hE hP2 ⟨by omega, by omega⟩) (fun v n3 hv => ?_)
    obtain ⟨rfl, fr3, a3, F3, t3, w3, hP3, hN3, q5, q6, q7⟩ := hv
    have ps3 := hP3.ps
    have rs3 := m_res_le hP3
    have f3t := hP3.frl
    have e1 := hN3.2.2.1
    have e2 := hN3.2.2.2.1
    have e3 := hN3.2.2.2.2
    have ht1 : t1 ≠ 0 ∧ t1 ≠ 1 := by
      rcases hb1 with z | z
      · exact absurd z bb
      · rcases hb2 z with y | y <;> (rw [y]; decide)
    have q8 := q7 ht1.1 ht1.2
    have hN03 := (hN1.tr hN2 (Nat.le_refl _) (Nat.le_refl _)).tr hN3 (Nat.le_refl _) (Nat.le_refl _)
    have hw3 := hw.kept hN03.2.1 hP.cell (by decide)
    refine xT.new hM rfl rfl rfl (by omega) (by show ab_sz _ + 9 ≤ _; omega) (fun m1 en w1 => ?_)
    have l1 := w1.2.2.1
    have s1 : ab_sz m1 = ab_sz n3 + 9 := w1.2.2.2
    refine xT.s1 hM rfl rfl ?_
    refine xT.s1 hM rfl rfl ?_
    refine xT.s1 hM rfl rfl ?_
    refine xT.go hM rfl rfl rfl rfl rfl rfl (xc_init rfl rfl rfl ⟨rfl, Nat.le_of_ble_eq_true rfl, rfl, rfl, rfl⟩) rfl ⟨Nat.le_of_ble_eq_true rfl, Nat.le_of_ble_eq_true rfl, by decide⟩ (m_vinit w1.1 (by omega) (by omega)) (fun v n4 hv => ?_)
    obtain ⟨rfl, G, hV, g0, g1, g4, g3, fr2, l2, s2⟩ := hv
    have ext2 : ∀ (k : Nat) (x : ab_E), n3[k]? = some x → n4[k]? = some x := fun k x hk => fr2 k x (w1.2.1 _ _ hk) (by have := x_lt hk; omega)
    have hP4 := hP3.ext ext2
    have hN4 : m_N n3 q F3 32 15 n4 F3 := m_N.ext ext2 (by omega) (by omega) (by omega)
    refine xT.s1 hM rfl rfl ?_
    refine xT.s1 hM rfl rfl ?_
    refine xT.s1 hM rfl rfl ?_
    refine xT.s1 hM rfl rfl ?_
    refine xT.s1 hM rfl rfl ?_
    have hval := HV (d + 1) (o + 1) fr3 a3 F3 t3 w3 n4 hP4 ⟨by omega, by omega⟩ ho1 (by omega)
    rw [show d + 1 + 2 * (60 - (o + 1)) + 14 = d + 2 * (60 - o) + 13 from by omega] at hval
    refine xT.ca hM rfl rfl rfl rfl rfl rfl (xc_virt rfl rfl rfl hP4.cell ⟨rfl, Nat.le_of_ble_eq_true rfl, rfl, Or.inl rfl⟩) rfl ⟨Nat.le_of_ble_eq_true rfl, Nat.le_of_ble_eq_true rfl, by decide⟩ rfl (hval) (fun v n5 hv => ?_) (fun ce xq h2 he => by
          obtain ⟨c, z, k1, k2, k3⟩ := he
          exact ⟨_, _, k1.pre (hN03.tr hN4 (Nat.le_refl _) (Nat.le_refl _)) (Nat.le_refl _) (Nat.le_refl _), by omega, by omega⟩)
    obtain ⟨b5, s5, fr5, a5, F5, t5, w5, c5, z5, rfl, hP5, hT5, q9, q10, q11, hN5, q12, q13⟩ := hv
    have ps5 := hP5.ps
    have f5t := hP5.frl
    have i1 := hN5.2.2.1
    have i2 := hN5.2.2.2.1
    have i3 := hN5.2.2.2.2
    obtain ⟨rt5, Fb5, hb5⟩ := hT5.root
    have kp5 := m_kp.fr hN5.2.1 hP4.cell (l := n3.length) (u := n4.length) (Or.inl (by omega))
    have hV5 := hV.kept kp5 ⟨by omega, by omega⟩ ⟨by omega, by omega⟩ ⟨by omega, by omega⟩ ⟨by omega, by omega⟩ (fun i hi => absurd hi (Nat.not_lt_zero i))
    have hw5 := (hw3.ext ext2).kept hN5.2.1 hP4.cell (by decide)
    refine xT.go hM rfl rfl rfl rfl rfl rfl (xc_virt rfl rfl rfl hV5.1 ⟨rfl, Nat.le_of_ble_eq_true rfl, rfl, Or.inl rfl⟩) rfl ⟨Nat.le_of_ble_eq_true rfl, Nat.le_of_ble_eq_true rfl, by decide⟩ (m_vadd hV5 hb5 (Or.inr ⟨_, hw5⟩) (by omega) (by omega) (by omega) (by omega)) (fun v n6 hv => ?_)
    obtain ⟨rfl, G6, qp6, qn6, ql6, m6, pf6, nf6, lf6, hV6, u1, u2, u3, u4, u5, u6⟩ := hv
    rcases u6 with ⟨rfl, rfl, rfl, rfl, u7, u8⟩ | ⟨z, -⟩
    rotate_left
    · exact absurd z (by decide)
    have hN05 := ((hN03.tr hN4 (Nat.le_refl _) (Nat.le_refl _)).tr hN5 (Nat.le_refl _) (Nat.le_refl _))
    have hVa := hV5.1
    have hVr := hV5.2.2.2.1
    have st1 : ∀ (k : Nat) (G : List Value), n5[k]? = some (.inr (9, G)) → n6[k]? = some (.inr (9, G)) := fun k G hk => u5 k _ hk (x_neq hk hVa (by simp)) (x_neq hk hVr.1 (by simp)) (x_neq hk hVr.2.1 (by simp)) (x_neq hk hVr.2.2 (by simp))
    have st2 : ∀ (k n : Nat) (f : Nat → Value), n5[k]? = some (.inl (0, n, f)) → n6[k]? = some (.inl (0, n, f)) := fun k n f hk => u5 k _ hk (x_neq hk hVa (by simp)) (x_neq hk hVr.1 (by simp)) (x_neq hk hVr.2.1 (by simp)) (x_neq hk hVr.2.2 (by simp))
    have hP6 := hP5.mv hP hN05 (fun k x hk hl => u5 k x hk (by omega) (by omega) (by omega) (by omega)) st1 st2
    have kp6 : m_kp n5 n6 n4.length n5.length := ⟨fun k x hk l u => u5 k x hk (by omega) (by omega) (by omega) (by omega), st1, st2⟩
    have hT6 := m_T.kept _ _ _ _ _ kp6 hT5
    rw [show 60 - (o + 1) + 1 = 60 - o from by omega] at hT6
    have hT7 : m_T (60 - o + 1) e n6 h.length n6.length n3.length (s5 + 2) := ⟨G6, _, _, _, 1, 2, pf6, nf6, lf6, fun _ => s5, ⟨hV6, ⟨8, (u4 0 (by omega)).trans g0, by omega, fun _ => rfl, .null, (u4 4 (by omega)).trans g4, Or.inl rfl, fun z => by omega⟩, ⟨_, (u4 1 (by omega)).trans g1⟩, ⟨_, (u4 3 (by omega)).trans g3⟩, ⟨by omega, by omega⟩, ⟨by omega, by omega⟩, ⟨by omega, by omega⟩, ⟨by omega, by omega⟩⟩, fun i hi => ⟨b5, n4.length, n5.length, by rw [show i = 0 from by omega]; exact u2, hT6, by omega, by omega⟩, by show 1 + (0 + (1 + s5)) ≤ s5 + 2; omega⟩
    have hq := hP6.cell
    have hl := hP6.len
    have p4 := hP6.2.2.2.2.2
    have hP := hP6
    refine xT.s1 hM rfl rfl ?_
    refine xT.s1 hM rfl rfl ?_
    refine xT.s2 hM rfl rfl (x2_get rfl (Or.inl rfl) hq p4) ?_
    refine xT.s1 hM rfl rfl ?_
    refine xT.s1 hM rfl rfl ?_
    rw [show nI (o + 1) - Int32.ofInt 1 = nI o from nI_pred o]
    refine xT.put hM rfl rfl hq (Or.inl rfl) (by rw [hl]; decide) (rfl) (Or.inl rfl) (fun h_2 F_2 eF eh up fb fo fl => ?_)
    obtain ⟨hP1, hN1⟩ := hP.put12 up fl fo fb
    refine xT.s1 hM rfl rfl ?_
    have kp8 := m_kp.fr hN1.2.1 hP6.cell (l := h.length) (u := n6.length) (Or.inl hql)
    have hT8 := (m_T.kept _ _ _ _ _ kp8 hT7).wid (Nat.le_refl _) hN1.2.2.2.1
    have y1 := hN1.2.2.1
    have y2 := hN1.2.2.2.2
    have nq : ∀ (k : Nat) (x : ab_E), h[k]? = some x → k ≠ q → h_2[k]? = some x := fun k x hk hn => hN1.2.1 k x (u5 k x (hN05.2.1 k x hk hn) (by have := x_lt hk; omega) (by have := x_lt hk; omega) (by have := x_lt hk; omega) (by have := x_lt hk; omega)) hn
    exact xT.ret hM rfl rfl rfl rfl (⟨n3.length, s5 + 2, fr5, a5, F_2, t5, w5, 33 * m_res gb tp a + 33 * m_res gb tp a1 + 32 + c5, 29 * m_res gb tp a + 29 * m_res gb tp a1 + 15 + z5, rfl, hP1, hT8, by omega, by omega, by omega, ⟨fun i hi => (hN1.1 i hi).trans (hN05.1 i hi), nq, by omega, by omega, by omega⟩, by omega, by omega⟩)
theorem m_T.put2 {n3 h' : ab_H} {k li ui b s v : Nat} {G G' : List Value} (hT : m_T k e n3 li ui b s) (up : x_up n3 v h' (.inr (11, G'))) (fl : G'.length = G.length) (fo : ∀ i, i ≠ 2 → G'[i]? = G[i]?) (hv : n3[v]? = some (.inr (11, G))) : m_T k e h' li ui b s := by
  have fr : ∀ (k : Nat) (x : ab_E), n3[k]? = some x → k ≠ v → h'[k]? = some x := fun k x hk hn => (up.2.1 k hn).trans hk
  have st : ∀ v m, j_str e n3 v m → j_str e h' v m := fun v m z => z.kept fr hv (by decide)
  have row : ∀ (k t n : Nat) (f : Nat → Value), n3[k]? = some (.inl (t, n, f)) → h'[k]? = some (.inl (t, n, f)) := fun k t n f hk => fr k _ hk (x_neq hk hv (by simp))
  have obj : ∀ (k : Nat) (F : List Value), n3[k]? = some (.inr (11, F)) → ∃ F', h'[k]? = some (.inr (11, F')) ∧ F'.length = F.length ∧ ∀ i, i ≠ 2 → F'[i]? = F[i]? := fun k F hk => by
    by_cases hkv : k = v
    · subst hkv
      rw [hv] at hk
      cases hk
      exact ⟨G', up.1, fl, fo⟩
    · exact ⟨F, fr k _ hk hkv, rfl, fun _ _ => rfl⟩
  induction k generalizing li ui b s with
  | zero => exact absurd hT id
  | succ k ih =>
    obtain ⟨G1, qp, qn, ql, c, n, pf, nf, lf, ss, ⟨hV, ⟨kd, v1, v2, v2', tx, v3, v4, v5⟩, ⟨p6, v6⟩, ⟨z7, v7⟩, b1, b2, b3, b4⟩, ch, hs⟩ := hT
    obtain ⟨ha, la, ⟨g5, g6, g7, g8⟩, ⟨hp, hn, hl⟩, cs, cl, cn⟩ := hV
    obtain ⟨F', hF, lF, fF⟩ := obj b G1 ha
    refine ⟨F', qp, qn, ql, c, n, pf, nf, lf, ss, ⟨⟨hF, lF.trans la, ⟨(fF 5 (by decide)).trans g5, (fF 6 (by decide)).trans g6, (fF 7 (by decide)).trans g7, (fF 8 (by decide)).trans g8⟩, ⟨row _ _ _ _ hp, row _ _ _ _ hn, row _ _ _ _ hl⟩, cs, fun i hi => ?_, fun i hi => ?_⟩, ⟨kd, (fF 0 (by decide)).trans v1, v2, v2', tx, (fF 4 (by decide)).trans v3, ?_, fun z => ?_⟩, ⟨p6, (fF 1 (by decide)).trans v6⟩, ⟨z7, (fF 3 (by decide)).trans v7⟩, b1, b2, b3, b4⟩, fun i hi => ?_, hs⟩
    · obtain ⟨bi, Fi, z1, z2⟩ := cl i hi
      obtain ⟨F2, hF2, -⟩ := obj bi Fi z2
      exact ⟨bi, F2, z1, hF2⟩
    · rcases cn i hi with z | ⟨m, z⟩
      · exact Or.inl z
      · exact Or.inr ⟨m, st _ _ z⟩
    · rcases v4 with z | ⟨m, z⟩
      · exact Or.inl z
      · exact Or.inr ⟨m, st _ _ z⟩
    · obtain ⟨m, y⟩ := v5 z
      exact ⟨m, st _ _ y⟩
    · obtain ⟨bi, li', ui', z1, z2, z3, z4⟩ := ch i hi
      exact ⟨bi, li', ui', z1, ih z2, z3, z4⟩
theorem m_valE (hE : e.1 = .null ∨ ∃ w, e.1 = .float w) (hc : m_ws e) (hP : m_P e h q q8 gb F tp fr a t w (nI o)) (hr : m_rm e h gb tp fr a t) (ho : o ≤ 60) (HB : m_BC e q q8 gb tp N) (hN0 : tp - fr < N + 1) : xT e (d + 2 * (60 - o) + 14) 30 271 [(1, .int (nI fr)), (0, .ref q)] [] h (x_Q (m_VN e h q q8 gb F tp fr a t o) (m_VE e h q q8 gb F tp fr a t)) := by
  have hM : (x_mt e.1)[30]? = some xM30 := rfl
  have hx := hr.x hP
  have hrx : x_rm e h := ⟨by have := hx.1; omega, by have := hx.2; omega⟩
  have hql := x_lt hP.cell
  have hfr := hP.frl
  have hps := hP.ps
  have hres := m_res_le hP
  refine xT.s1 hM rfl rfl ?_
  refine xT.s1 hM rfl rfl ?_
  refine xT.s2 hM rfl rfl rfl ?_
  refine xT.go hM rfl rfl rfl rfl rfl rfl (xc_virt rfl rfl rfl hP.cell ⟨rfl, Nat.le_of_ble_eq_true rfl, rfl, Or.inl rfl⟩) rfl ⟨Nat.le_of_ble_eq_true rfl, Nat.le_of_ble_eq_true rfl, by decide⟩ (m_is hP (hc _ (by simp))) (fun v n2 hv => ?_)
  obtain ⟨b, rfl, hb1, hb2, hh2⟩ := hv
  subst n2
  refine xT.ca hM rfl rfl rfl rfl rfl rfl (xc_virt rfl rfl rfl hP.cell ⟨rfl, Nat.le_of_ble_eq_true rfl, rfl, Or.inl rfl⟩) rfl ⟨Nat.le_of_ble_eq_true rfl, Nat.le_of_ble_eq_true rfl, by decide⟩ rfl (m_can (b := b) (by omega) (by omega)) (fun v n2 hv => ?_) (fun ce xq h2 he => m_VE.now hP (m_Ex.of hP he.2.1 he.2.2.1 he.2.2.2) (Nat.le_refl _) (Nat.le_refl _))
  obtain ⟨rfl, hh2, hbn⟩ := hv
  subst n2
  have ht0 : t ≠ 0 ∧ t ≠ 1 := by
    rcases hb1 with z | z
    · exact absurd z hbn
    · rcases hb2 z with y | y <;> (rw [y]; decide)
  refine xT.s1 hM rfl rfl ?_
  refine xT.ca hM rfl rfl rfl rfl rfl rfl (xc_virt rfl rfl rfl hP.cell ⟨rfl, Nat.le_of_ble_eq_true rfl, rfl, Or.inl rfl⟩) rfl ⟨Nat.le_of_ble_eq_true rfl, Nat.le_of_ble_eq_true rfl, by decide⟩ rfl (m_open hP hrx ho) (fun v n1 hv => ?_) (fun ce xq h2 he => m_VE.now hP he (Nat.le_refl _) (Nat.le_refl _))
  obtain ⟨rfl, ho1, F1, hP1, hN1⟩ := hv
  have c1 := hN1.2.2.1
  have c2 := hN1.2.2.2.1
  have c3 := hN1.2.2.2.2
  have r1 := hr.1
  have r2 := hr.2
  refine xT.s1 hM rfl rfl ?_
  refine xT.go hM rfl rfl rfl rfl rfl rfl (xc_virt rfl rfl rfl hP1.cell ⟨rfl, Nat.le_of_ble_eq_true rfl, rfl, Or.inl rfl⟩) rfl ⟨Nat.le_of_ble_eq_true rfl, Nat.le_of_ble_eq_true rfl, by decide⟩ (m_adv hE hP1 ⟨by omega, by omega⟩) (fun v n2 hv => ?_)
  obtain ⟨rfl, fr2, a2, F2, t2, w2, hP2, hN2, q1, q2, q3⟩ := hv
  have q4 := q3 ht0.1 ht0.2
  have ps2 := hP2.ps
  have f2t := hP2.frl
  have d1 := hN2.2.2.1
  have d2 := hN2.2.2.2.1
  have d3 := hN2.2.2.2.2
  have hN02 := hN1.tr hN2 (Nat.le_refl _) (Nat.le_refl _)
  refine xT.s1 hM rfl rfl ?_
  refine xT.s1 hM rfl rfl ?_
  have hbr := HB d (o + 1) fr2 a2 F2 t2 w2 n2 (nI fr) hP2 (by omega) (by omega) (by omega) ho1 (by omega)
  rw [show d + 2 * (61 - (o + 1)) + 13 = d + 2 * (60 - o) + 13 from by omega] at hbr
  refine xT.ca hM rfl rfl rfl rfl rfl rfl (xc_virt rfl rfl rfl hP2.cell ⟨rfl, Nat.le_of_ble_eq_true rfl, rfl, Or.inl rfl⟩) rfl ⟨Nat.le_of_ble_eq_true rfl, Nat.le_of_ble_eq_true rfl, by decide⟩ rfl (hbr) (fun v n3 hv => ?_) (fun ce xq h2 he => by
        obtain ⟨c, z, k1, k2, k3⟩ := he
        exact ⟨_, _, k1.pre hN02 (Nat.le_refl _) (Nat.le_refl _), by omega, by omega⟩)
  obtain ⟨b3, s3, fr3, a3, F3, t3, w3, c3', z3, rfl, hP3, hT3, q5, q6, q7, hN3, q8', q9⟩ := hv
  have ps3 := hP3.ps
  have f3t := hP3.frl
  have e1 := hN3.2.2.1
  have e2 := hN3.2.2.2.1
  have e3 := hN3.2.2.2.2
  rw [show 60 - (o + 1) + 1 + 1 = 60 - o + 1 from by omega] at hT3
  obtain ⟨G, qp, qn, ql, cc, nn, pf, nf, lf, ss, hV1, ch, hsz⟩ := id hT3
  have hVx := hV1.1
  have f7 := hP3.1.1.2.2.2.2.2.1
  refine xT.s1 hM rfl rfl ?_
  refine xT.s1 hM rfl rfl ?_
  refine xT.s1 hM rfl rfl ?_
  refine xT.s2 hM rfl rfl (x2_get rfl (Or.inl rfl) hP3.cell f7) ?_
  refine xT.put hM rfl rfl hVx.1 (Or.inr rfl) (by rw [hVx.2.1]; decide) (rfl) (Or.inl rfl) (fun p_1 G_1 eF eh up fb fo fl => ?_)
  have hV4 := hVx.put up fl fo (by decide)
  have hP4 := hP3.oth (fun k x hk hn => (up.2.1 k hn).trans hk) hVx.1 (by decide) (by decide)
  have l4 := up.2.2.1
  have s4 := up.2.2.2
  have hT4 : m_T (60 - o + 1) e p_1 n2.length p_1.length b3 s3 := (hT3.put2 up fl fo hVx.1).wid (Nat.le_refl _) (by omega)
  refine xT.s1 hM rfl rfl ?_
  refine xT.s2 hM rfl rfl rfl ?_
  have hN3p : m_N n2 q F2 c3' z3 p_1 F3 := ⟨hN3.1, fun k x hk hn => (up.2.1 k (by have := x_lt hk; have := hT3.root.1.1; omega)).trans (hN3.2.1 k x hk hn), by omega, by omega, by omega⟩
  refine xT.ca hM rfl rfl rfl rfl rfl rfl (xc_virt rfl rfl rfl hP4.cell ⟨rfl, Nat.le_of_ble_eq_true rfl, rfl, Or.inl rfl⟩) rfl ⟨Nat.le_of_ble_eq_true rfl, Nat.le_of_ble_eq_true rfl, by decide⟩ rfl (m_expect hE hP4 ⟨by omega, by omega⟩ (hc _ (by simp))) (fun v n5 hv => ?_) (fun ce xq h2 he => ⟨_, _, he.pre (hN02.tr hN3p (Nat.le_refl _) (Nat.le_refl _)) (Nat.le_refl _) (Nat.le_refl _), by omega, by omega⟩)
  obtain ⟨rfl, -, fr5, a5, F5, t5, w5, hP5, hN5, q10, q11, q12⟩ := hv
  have ps5 := hP5.ps
  have f5t := hP5.frl
  have i1 := hN5.2.2.1
  have i2 := hN5.2.2.2.1
  have i3 := hN5.2.2.2.2
  have hN05 := (hN02.tr hN3p (Nat.le_refl _) (Nat.le_refl _)).tr hN5 (Nat.le_refl _) (Nat.le_refl _)
  have hT5 := (m_T.kept _ _ _ _ _ (m_kp.fr hN5.2.1 hP4.cell (Or.inl (by omega))) hT4)
  have hq := hP5.cell
  have hl := hP5.len
  have p4 := hP5.2.2.2.2.2
  have hP := hP5
  refine xT.s1 hM rfl rfl ?_
  refine xT.s1 hM rfl rfl ?_
  refine xT.s2 hM rfl rfl (x2_get rfl (Or.inl rfl) hq p4) ?_
  refine xT.s1 hM rfl rfl ?_
  refine xT.s1 hM rfl rfl ?_
  rw [show nI (o + 1) - Int32.ofInt 1 = nI o from nI_pred o]
  refine xT.put hM rfl rfl hq (Or.inl rfl) (by rw [hl]; decide) (rfl) (Or.inl rfl) (fun h_2 F_2 eF eh up fb fo fl => ?_)
  obtain ⟨hP1, hN1⟩ := hP.put12 up fl fo fb
  refine xT.s1 hM rfl rfl ?_
  have j1 := hN1.2.2.1
  have j2 := hN1.2.2.2.1
  have j3 := hN1.2.2.2.2
  have hT6 := (m_T.kept _ _ _ _ _ (m_kp.fr hN1.2.1 hP5.cell (Or.inl (by omega))) hT5).wid (l' := h.length) (u' := h_2.length) (by omega) (by omega)
  exact xT.ret hM rfl rfl rfl rfl (⟨b3, s3, fr5, a5, F_2, t5, w5, _, _, rfl, hP1, hT6, by omega, by omega, by omega, hN05.tr hN1 (Nat.le_refl _) (Nat.le_refl _), by omega, by omega⟩)
end XVD
