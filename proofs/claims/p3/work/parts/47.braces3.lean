/-! the reference: braces, its loops and the whole of it -/
section XBL
variable {e : xE} {d q q8 tp fr0 a0 o N v kd : Nat} {gb : Nat → Int32} {h0 : ab_H} {F0 : List Value} {t0 : Int32} {w0 : Value} {p nm od : Int32}
theorem m_brOid (hE : e.1 = .null ∨ ∃ w, e.1 = .float w) (hc : m_ws e) (hP0 : m_P e h0 q q8 gb F0 tp fr0 a0 t0 w0 (nI o)) (hr1 : 8 * h0.length + 66 * (tp + 2 - m_ps tp a0 t0) + 56 * (tp - fr0) + 5056 ≤ 8 * e.2.2.2.1) (hr2 : ab_sz h0 + 58 * (tp + 2 - m_ps tp a0 t0) + 27 * (tp - fr0) + 70027 ≤ e.2.2.2.2.1) (hr3 : e.2.2.2.2.2 ≤ h0.length) (ho : o ≤ 60) (ht0 : t0 = 5) : ∀ (M fr a : Nat) (F : List Value) (t : Int32) (w : Value) (h : ab_H), m_LI e h0 q q8 gb F0 tp fr0 a0 t0 o v kd h F fr a t w → tp - fr < M → xT e (d + 2 * (61 - o) + 13) 32 168 [(11, .ref v), (10, .int od), (9, .int nm), (0, .ref q), (1, .int p)] [] h (x_Q (m_BN e h0 q q8 gb F0 tp fr0 a0 t0 o) (m_BE e h0 q q8 gb F0 tp fr0 a0 t0)) := by
  have hM : (x_mt e.1)[32]? = some xM32 := rfl
  intro M
  induction M with
  | zero => intro fr a F t w h hL m1; omega
  | succ M ih =>
    intro fr a F t w h hL m1
    obtain ⟨hP, hkd, G, qp, qn, ql, c, n, pf, nf, lf, s, C, Z, hW, g0, hn1, hn2, hcf, hs, hff, hpp, hN, hcost⟩ := hL
    have hps := hP.ps
    have hfr := hP.frl
    have hres := m_res_le hP
    have hps0 := hP0.ps
    have hfr0 := hP0.frl
    have hres0 := m_res_le hP0
    have htp := hP.tpl
    have c1 := hN.2.2.1
    have c2 := hN.2.2.2.1
    have c3 := hN.2.2.2.2
    have hql := x_lt hP0.cell
    have hca : (c = 0 ∧ n = 2 ∧ fr = fr0 ∧ m_ps tp a t = m_ps tp a0 t0 ∧ m_res gb tp a = m_res gb tp a0 ∧ C ≤ 33 * m_res gb tp a0 + 32 ∧ Z ≤ 29 * m_res gb tp a0 + 15) ∨ (C ≤ 66 * (m_ps tp a t - m_ps tp a0 t0) + 56 * (fr - fr0) + 32 ∧ Z + 12 * c + 12 ≤ 58 * (m_ps tp a t - m_ps tp a0 t0) + 27 * (fr - fr0) + 15 + 6 * n) := by
      rcases hcost with ⟨z1, z2, z3, z4, z5, z6, z7⟩ | z
      · exact Or.inl ⟨z1, z2, z4, by rw [z3, z5], by rw [z3], z6, z7⟩
      · exact Or.inr z
    have hx : 8 * h.length + 4900 ≤ 8 * e.2.2.2.1 ∧ ab_sz h + 60000 ≤ e.2.2.2.2.1 := by
      rcases hca with z | z
      · constructor <;> omega
      · constructor <;> omega
    have hn9 : n ≤ 9000 := by omega
    have hnz : 6 * n ≤ 50000 := by omega
    obtain ⟨-, -, -, -, b1, b2, b3, b4⟩ := id hW.1
    refine xT.s1 hM rfl rfl ?_
    refine xT.s2 hM rfl rfl (x2_get rfl (Or.inl rfl) hP.cell hP.1.1.2.2.2.2.1) ?_
    refine xT.s1 hM rfl rfl ?_
    refine xT.s1 hM rfl rfl ?_
    refine xT.br (fun hb => ?_) (fun hb => ?_)
    · have ht : t ≠ 0 ∧ t ≠ 1 := by rw [hb]; decide
      refine xT.new hM rfl rfl rfl (by omega) (by show ab_sz _ + 9 ≤ _; omega) (fun n1 en w1 => ?_)
      have l1 := w1.2.2.1
      have s1 : ab_sz n1 = ab_sz h + 9 := w1.2.2.2
      have hPn := hP.ext w1.2.1
      refine xT.s1 hM rfl rfl ?_
      refine xT.s1 hM rfl rfl ?_
      refine xT.s1 hM rfl rfl ?_
      refine xT.s2 hM rfl rfl (x2_get rfl (Or.inl rfl) hPn.cell hP.1.1.2.2.2.2.2.1) ?_
      refine xT.go hM rfl rfl rfl rfl rfl rfl (xc_init rfl rfl rfl ⟨rfl, Nat.le_of_ble_eq_true rfl, rfl, rfl, rfl⟩) rfl ⟨Nat.le_of_ble_eq_true rfl, Nat.le_of_ble_eq_true rfl, by decide⟩ (m_vinit w1.1 (by omega) (by omega)) (fun v n2 hv => ?_)
      obtain ⟨rfl, Gx, hV, x0, x1, x4, x3, fr2, l2, s2⟩ := hv
      have ext2 : ∀ (k : Nat) (x : ab_E), h[k]? = some x → n2[k]? = some x := fun k x hk => fr2 k x (w1.2.1 _ _ hk) (by have := x_lt hk; omega)
      have hP2 := hP.ext ext2
      obtain ⟨n9, f9⟩ := hP2.1.1.2.2.2.2.2.2.2.1
      refine xT.s1 hM rfl rfl ?_
      refine xT.s1 hM rfl rfl ?_
      refine xT.s1 hM rfl rfl ?_
      refine xT.s2 hM rfl rfl (x2_get rfl (Or.inl rfl) hP2.cell f9) ?_
      have hVx := hV
      refine xT.put hM rfl rfl hVx.1 (Or.inr rfl) (by rw [hVx.2.1]; decide) (rfl) (Or.inl rfl) (fun p_1 G_1 eF eh up fb fo fl => ?_)
      have hV4 := hVx.put up fl fo (by decide)
      have hP4 := hP2.oth (fun k x hk hn => (up.2.1 k hn).trans hk) hVx.1 (by decide) (by decide)
      have l4 := up.2.2.1
      have s4 := up.2.2.2
      have hT4 : m_T (60 - o + 1) e p_1 h.length p_1.length h.length 1 := m_T.leaf ⟨hV4, ⟨3, (fo 0 (by decide)).trans x0, by omega, fun z => by omega, .null, (fo 4 (by decide)).trans x4, Or.inl rfl, fun z => by omega⟩, ⟨_, (fo 1 (by decide)).trans x1⟩, ⟨_, fb⟩, ⟨by omega, by omega⟩, ⟨by omega, by omega⟩, ⟨by omega, by omega⟩, ⟨by omega, by omega⟩⟩
      have kpA : m_kp h n2 h0.length h.length := ⟨fun k x hk _ _ => ext2 k x hk, fun k F hk => ext2 _ _ hk, fun k n f hk => ext2 _ _ hk⟩
      have kpB : m_kp n2 p_1 h0.length h.length := ⟨fun k x hk _ hu => (up.2.1 k (by omega)).trans hk, fun k F hk => (up.2.1 k (x_neq hk hV.1 (by simp))).trans hk, fun k n f hk => (up.2.1 k (x_neq hk hV.1 (by simp))).trans hk⟩
      have hW5 := ((hW.kept kpA).kept kpB).wid (u' := p_1.length) (by omega)
      have hN4 : m_N h0 q F0 (C + 32) (Z + 15) p_1 F := ⟨hN.1, fun k x hk hn => (up.2.1 k (by have := x_lt hk; omega)).trans (ext2 k x (hN.2.1 k x hk hn)), by omega, by omega, by omega⟩
      refine xT.s1 hM rfl rfl ?_
      refine xT.s1 hM rfl rfl ?_
      refine xT.s1 hM rfl rfl ?_
      refine xT.s2 hM rfl rfl (x2_get rfl (Or.inl rfl) hP4.cell hP4.1.1.2.2.2.2.2.1) ?_
      refine xT.s1 hM rfl rfl ?_
      refine xT.go hM rfl rfl rfl rfl rfl rfl (xc_virt rfl rfl rfl hW5.1.1.1 ⟨rfl, Nat.le_of_ble_eq_true rfl, rfl, Or.inl rfl⟩) rfl ⟨Nat.le_of_ble_eq_true rfl, Nat.le_of_ble_eq_true rfl, by decide⟩ (m_vadd hW5.1.1 hV4.1 (Or.inl rfl) hn9 hn2 (by omega) (by omega)) (fun v n6 hv => ?_)
      obtain ⟨rfl, G6, qp6, qn6, ql6, m6, pf6, nf6, lf6, hV6, u1, u2, u3, u4, u5, u6⟩ := hv
      have gz : (ab_sz n6 = ab_sz p_1 ∧ n6.length = List.length p_1 ∧ m6 = n) ∨ (ab_sz n6 = ab_sz p_1 + 6 * n ∧ n6.length = List.length p_1 + 3 ∧ m6 = 2 * n ∧ c = n) := by
        rcases u6 with ⟨z1, -, -, -, z5, z6⟩ | ⟨z1, z2, -, -, -, z6, z7⟩
        · exact Or.inl ⟨z6, z5, z1⟩
        · exact Or.inr ⟨z7, z6, z2, z1⟩
      have hq6 : (qp6 = qp ∧ qn6 = qn ∧ ql6 = ql) ∨ ((List.length p_1 ≤ qp6 ∧ qp6 < n6.length) ∧ (List.length p_1 ≤ qn6 ∧ qn6 < n6.length) ∧ (List.length p_1 ≤ ql6 ∧ ql6 < n6.length)) := by
        rcases u6 with ⟨-, z2, z3, z4, -⟩ | ⟨-, -, z3, z4, z5, z6, -⟩
        · exact Or.inl ⟨z2, z3, z4⟩
        · exact Or.inr (by omega)
      have hVa := hW5.1.1.1
      have hVr := hW5.1.1.2.2.2.1
      have st1 : ∀ (k : Nat) (G : List Value), p_1[k]? = some (.inr (9, G)) → n6[k]? = some (.inr (9, G)) := fun k G hk => u5 k _ hk (x_neq hk hVa (by simp)) (x_neq hk hVr.1 (by simp)) (x_neq hk hVr.2.1 (by simp)) (x_neq hk hVr.2.2 (by simp))
      have st2 : ∀ (k n : Nat) (f : Nat → Value), p_1[k]? = some (.inl (0, n, f)) → n6[k]? = some (.inl (0, n, f)) := fun k n f hk => u5 k _ hk (x_neq hk hVa (by simp)) (x_neq hk hVr.1 (by simp)) (x_neq hk hVr.2.1 (by simp)) (x_neq hk hVr.2.2 (by simp))
      have hW6 := hW5.add rfl g0 hkd hT4 ⟨by omega, Nat.le_refl _⟩ ⟨Or.inl (by omega), Or.inl (by omega), Or.inl (by omega), Or.inl (by omega)⟩ hV6 u1 u2 u4 u5 (by omega) hq6
      have hP6 := hP4.mv hP0 hN4 (fun k x hk hl => u5 k x hk (by omega) (by omega) (by omega) (by omega)) st1 st2
      refine xT.s1 hM rfl rfl ?_
      refine xT.go hM rfl rfl rfl rfl rfl rfl (xc_virt rfl rfl rfl hP6.cell ⟨rfl, Nat.le_of_ble_eq_true rfl, rfl, Or.inl rfl⟩) rfl ⟨Nat.le_of_ble_eq_true rfl, Nat.le_of_ble_eq_true rfl, by decide⟩ (m_adv hE hP6 ⟨by omega, by omega⟩) (fun v n7 hv => ?_)
      obtain ⟨rfl, fr7, a7, F7, t7, w7, hP7, hN7, q1, q2, q3⟩ := hv
      have q4 := q3 ht.1 ht.2
      have hps7 := hP7.ps
      have hfr7 := hP7.frl
      have e1 := hN7.2.2.1
      have e2 := hN7.2.2.2.1
      have e3 := hN7.2.2.2.2
      have hW7 := (hW6.kept (m_kp.fr hN7.2.1 hP6.cell (Or.inl hql))).wid hN7.2.2.2.1
      have hN07 : m_N h0 q F0 (C + 56 + 33 * m_res gb tp a) (Z + 15 + (ab_sz n6 - ab_sz p_1) + 29 * m_res gb tp a) n7 F7 := ⟨fun i hi => (hN7.1 i hi).trans (hN.1 i hi), fun k x hk hn => hN7.2.1 k x (u5 k x (hN4.2.1 k x hk hn) (by have := x_lt hk; omega) (by have := x_lt hk; omega) (by have := x_lt hk; omega) (by have := x_lt hk; omega)) hn, by omega, by omega, by omega⟩
      refine xT.s1 hM rfl rfl ?_
      refine xT.weak (L := [(11, .ref v), (10, .int od), (9, .int nm), (0, .ref q), (1, .int p)]) ⟨by simp [ab_put1, x_ci, x_cr, x_cf, x_cn, x_cl2], by simp [ab_put1, x_ci, x_cr, x_cf, x_cn, x_cl2]⟩ (ih fr7 a7 F7 t7 w7 n7 ⟨hP7, hkd, G6, qp6, qn6, ql6, c + 1, m6, pf6, nf6, lf6, s + (1 + 1), _, _, hW7, (u4 0 (by omega)).trans g0, by omega, by omega, by omega, by omega, by omega, by omega, hN07, Or.inr ⟨by omega, by omega⟩⟩ (by omega))
    · refine xT.s1 hM rfl rfl ?_
      rcases hcost with ⟨z1, z2, z3, z4, z5, z6, z7⟩ | ⟨z1, z2⟩
      · exact absurd (by rw [z5, ht0]; decide) hb
      · exact xT.ret hM rfl rfl rfl rfl ⟨v, s, fr, a, F, t, w, C, Z, rfl, hP, hW.done, hff, hs, hpp, hN, by omega, by omega⟩
theorem m_brVal (hE : e.1 = .null ∨ ∃ w, e.1 = .float w) (hc : m_ws e) (hP0 : m_P e h0 q q8 gb F0 tp fr0 a0 t0 w0 (nI o)) (hr1 : 8 * h0.length + 66 * (tp + 2 - m_ps tp a0 t0) + 56 * (tp - fr0) + 5056 ≤ 8 * e.2.2.2.1) (hr2 : ab_sz h0 + 58 * (tp + 2 - m_ps tp a0 t0) + 27 * (tp - fr0) + 70027 ≤ e.2.2.2.2.1) (hr3 : e.2.2.2.2.2 ≤ h0.length) (ho : o ≤ 60) (HV : m_VC e q q8 gb tp N) (hNN : tp - fr0 < N) : ∀ (M fr a : Nat) (F : List Value) (t : Int32) (w : Value) (h : ab_H), m_LI e h0 q q8 gb F0 tp fr0 a0 t0 o v kd h F fr a t w → tp - fr < M → xT e (d + 2 * (61 - o) + 13) 32 221 [(11, .ref v), (9, .int nm), (0, .ref q), (1, .int p)] [] h (x_Q (m_BN e h0 q q8 gb F0 tp fr0 a0 t0 o) (m_BE e h0 q q8 gb F0 tp fr0 a0 t0)) := by
  have hM : (x_mt e.1)[32]? = some xM32 := rfl
  intro M
  induction M with
  | zero => intro fr a F t w h hL m1; omega
  | succ M ih =>
    intro fr a F t w h hL m1
    obtain ⟨hP, hkd, G, qp, qn, ql, c, n, pf, nf, lf, s, C, Z, hW, g0, hn1, hn2, hcf, hs, hff, hpp, hN, hcost⟩ := hL
    have hps := hP.ps
    have hfr := hP.frl
    have hres := m_res_le hP
    have hps0 := hP0.ps
    have hfr0 := hP0.frl
    have hres0 := m_res_le hP0
    have htp := hP.tpl
    have c1 := hN.2.2.1
    have c2 := hN.2.2.2.1
    have c3 := hN.2.2.2.2
    have hql := x_lt hP0.cell
    have hca : (c = 0 ∧ n = 2 ∧ fr = fr0 ∧ m_ps tp a t = m_ps tp a0 t0 ∧ m_res gb tp a = m_res gb tp a0 ∧ C ≤ 33 * m_res gb tp a0 + 32 ∧ Z ≤ 29 * m_res gb tp a0 + 15) ∨ (C ≤ 66 * (m_ps tp a t - m_ps tp a0 t0) + 56 * (fr - fr0) + 32 ∧ Z + 12 * c + 12 ≤ 58 * (m_ps tp a t - m_ps tp a0 t0) + 27 * (fr - fr0) + 15 + 6 * n) := by
      rcases hcost with ⟨z1, z2, z3, z4, z5, z6, z7⟩ | z
      · exact Or.inl ⟨z1, z2, z4, by rw [z3, z5], by rw [z3], z6, z7⟩
      · exact Or.inr z
    have hx : 8 * h.length + 4900 ≤ 8 * e.2.2.2.1 ∧ ab_sz h + 60000 ≤ e.2.2.2.2.1 := by
      rcases hca with z | z
      · constructor <;> omega
      · constructor <;> omega
    have hn9 : n ≤ 9000 := by omega
    have hnz : 6 * n ≤ 50000 := by omega
    obtain ⟨-, -, -, -, b1, b2, b3, b4⟩ := id hW.1
    refine xT.s1 hM rfl rfl ?_
    refine xT.s2 hM rfl rfl (x2_get rfl (Or.inl rfl) hP.cell hP.1.1.2.2.2.2.2.1) ?_
    refine xT.s1 hM rfl rfl ?_
    refine xT.s1 hM rfl rfl ?_
    refine xT.s1 hM rfl rfl ?_
    refine xT.br (fun bn => ?_) (fun bn => ?_)
    · refine xT.s1 hM rfl rfl ?_
      refine xT.s1 hM rfl rfl ?_
      refine xT.s1 hM rfl rfl ?_
      refine xT.s1 hM rfl rfl ?_
      refine xT.s1 hM rfl rfl ?_
      refine xT.s1 hM rfl rfl ?_
      have hval := HV d o fr a F t w h hP ⟨by omega, by omega⟩ ho (by omega)
      rw [show d + 2 * (60 - o) + 14 = d + 2 * (61 - o) + 12 from by omega] at hval
      refine xT.ca hM rfl rfl rfl rfl rfl rfl (xc_virt rfl rfl rfl hP.cell ⟨rfl, Nat.le_of_ble_eq_true rfl, rfl, Or.inl rfl⟩) rfl ⟨Nat.le_of_ble_eq_true rfl, Nat.le_of_ble_eq_true rfl, by decide⟩ rfl (hval) (fun v n5 hv => ?_) (fun ce xq h2 he => by
            obtain ⟨cx, zx, k1, k2, k3⟩ := he
            exact ⟨_, _, k1.pre hN (Nat.le_refl _) (Nat.le_refl _), by omega, by omega⟩)
      obtain ⟨bx, sx, fr5, a5, F5, t5, w5, cx, zx, rfl, hP5, hT5, q9, q10, q11, hN5, q12, q13⟩ := hv
      have hps5 := hP5.ps
      have hfr5 := hP5.frl
      have i1 := hN5.2.2.1
      have i2 := hN5.2.2.2.1
      have i3 := hN5.2.2.2.2
      obtain ⟨rt5, Fb5, hb5⟩ := hT5.root
      have hW5 := ((hW).kept (m_kp.fr hN5.2.1 hP.cell (Or.inl hql))).wid (u' := n5.length) (by omega)
      have hN05 := hN.tr hN5 (Nat.le_refl _) (Nat.le_refl _)
      refine xT.go hM rfl rfl rfl rfl rfl rfl (xc_virt rfl rfl rfl hW5.1.1.1 ⟨rfl, Nat.le_of_ble_eq_true rfl, rfl, Or.inl rfl⟩) rfl ⟨Nat.le_of_ble_eq_true rfl, Nat.le_of_ble_eq_true rfl, by decide⟩ (m_vadd hW5.1.1 hb5 (Or.inl rfl) hn9 hn2 (by omega) (by omega)) (fun v n6 hv => ?_)
      obtain ⟨rfl, G6, qp6, qn6, ql6, m6, pf6, nf6, lf6, hV6, u1, u2, u3, u4, u5, u6⟩ := hv
      have gz : (ab_sz n6 = ab_sz n5 ∧ n6.length = List.length n5 ∧ m6 = n) ∨ (ab_sz n6 = ab_sz n5 + 6 * n ∧ n6.length = List.length n5 + 3 ∧ m6 = 2 * n ∧ c = n) := by
        rcases u6 with ⟨z1, -, -, -, z5, z6⟩ | ⟨z1, z2, -, -, -, z6, z7⟩
        · exact Or.inl ⟨z6, z5, z1⟩
        · exact Or.inr ⟨z7, z6, z2, z1⟩
      have hq6 : (qp6 = qp ∧ qn6 = qn ∧ ql6 = ql) ∨ ((List.length n5 ≤ qp6 ∧ qp6 < n6.length) ∧ (List.length n5 ≤ qn6 ∧ qn6 < n6.length) ∧ (List.length n5 ≤ ql6 ∧ ql6 < n6.length)) := by
        rcases u6 with ⟨-, z2, z3, z4, -⟩ | ⟨-, -, z3, z4, z5, z6, -⟩
        · exact Or.inl ⟨z2, z3, z4⟩
        · exact Or.inr (by omega)
      have hVa := hW5.1.1.1
      have hVr := hW5.1.1.2.2.2.1
      have st1 : ∀ (k : Nat) (G : List Value), n5[k]? = some (.inr (9, G)) → n6[k]? = some (.inr (9, G)) := fun k G hk => u5 k _ hk (x_neq hk hVa (by simp)) (x_neq hk hVr.1 (by simp)) (x_neq hk hVr.2.1 (by simp)) (x_neq hk hVr.2.2 (by simp))
      have st2 : ∀ (k n : Nat) (f : Nat → Value), n5[k]? = some (.inl (0, n, f)) → n6[k]? = some (.inl (0, n, f)) := fun k n f hk => u5 k _ hk (x_neq hk hVa (by simp)) (x_neq hk hVr.1 (by simp)) (x_neq hk hVr.2.1 (by simp)) (x_neq hk hVr.2.2 (by simp))
      have hW6 := hW5.add rfl g0 hkd hT5 ⟨by omega, Nat.le_refl _⟩ ⟨Or.inl (by omega), Or.inl (by omega), Or.inl (by omega), Or.inl (by omega)⟩ hV6 u1 u2 u4 u5 (by omega) hq6
      have hP6 := hP5.mv hP0 hN05 (fun k x hk hl => u5 k x hk (by omega) (by omega) (by omega) (by omega)) st1 st2
      have nq : ∀ (k : Nat) (x : ab_E), h0[k]? = some x → k ≠ q → n6[k]? = some x := fun k x hk hn => u5 k x (hN05.2.1 k x hk hn) (by have := x_lt hk; omega) (by have := x_lt hk; omega) (by have := x_lt hk; omega) (by have := x_lt hk; omega)
      have hN06 : m_N h0 q F0 (C + cx + 24) (Z + zx + (ab_sz n6 - ab_sz n5)) n6 F5 := ⟨hN05.1, nq, by omega, by omega, by omega⟩
      refine xT.s1 hM rfl rfl ?_
      refine xT.s2 hM rfl rfl rfl ?_
      refine xT.go hM rfl rfl rfl rfl rfl rfl (xc_virt rfl rfl rfl hP6.cell ⟨rfl, Nat.le_of_ble_eq_true rfl, rfl, Or.inl rfl⟩) rfl ⟨Nat.le_of_ble_eq_true rfl, Nat.le_of_ble_eq_true rfl, by decide⟩ (m_is hP6 (hc _ (by simp))) (fun v n7 hv => ?_)
      obtain ⟨b, rfl, hbb1, hbb2, hh2⟩ := hv
      subst n7
      refine xT.s1 hM rfl rfl ?_
      refine xT.br (fun b5 => ?_) (fun b5 => ?_)
      · refine xT.s1 hM rfl rfl ?_
        exact xT.ret hM rfl rfl rfl rfl (⟨v, s + (1 + sx), fr5, a5, F5, t5, w5, _, _, rfl, hP6, hW6.done, by omega, by omega, by omega, hN06, by omega, by omega⟩)
      · have ht5 : t5 ≠ 0 ∧ t5 ≠ 1 := by
          rcases hbb1 with z | z
          · exact absurd z b5
          · rcases hbb2 z with y | y <;> (rw [y]; decide)
        refine xT.s1 hM rfl rfl ?_
        refine xT.go hM rfl rfl rfl rfl rfl rfl (xc_virt rfl rfl rfl hP6.cell ⟨rfl, Nat.le_of_ble_eq_true rfl, rfl, Or.inl rfl⟩) rfl ⟨Nat.le_of_ble_eq_true rfl, Nat.le_of_ble_eq_true rfl, by decide⟩ (m_adv hE hP6 ⟨by omega, by omega⟩) (fun v n7 hv => ?_)
        obtain ⟨rfl, fr7, a7, F7, t7, w7, hP7, hN7, r1, r2, r3⟩ := hv
        have r4 := r3 ht5.1 ht5.2
        have hps7 := hP7.ps
        have hfr7 := hP7.frl
        have e1 := hN7.2.2.1
        have e2 := hN7.2.2.2.1
        have e3 := hN7.2.2.2.2
        have hW7 := (hW6.kept (m_kp.fr hN7.2.1 hP6.cell (Or.inl hql))).wid hN7.2.2.2.1
        have hN07 := hN06.tr hN7 (Nat.le_refl _) (Nat.le_refl _)
        refine xT.s1 hM rfl rfl ?_
        refine xT.weak (L := [(11, .ref v), (9, .int nm), (0, .ref q), (1, .int p)]) ⟨by simp [ab_put1, x_ci, x_cr, x_cf, x_cn, x_cl2], by simp [ab_put1, x_ci, x_cr, x_cf, x_cn, x_cl2]⟩ (ih fr7 a7 F7 t7 w7 n7 ⟨hP7, hkd, G6, qp6, qn6, ql6, c + 1, m6, pf6, nf6, lf6, s + (1 + sx), _, _, hW7, (u4 0 (by omega)).trans g0, by omega, by omega, by omega, by omega, by omega, by omega, hN07, Or.inr ⟨by omega, by omega⟩⟩ (by omega))
    · refine xT.s1 hM rfl rfl ?_
      refine xT.s1 hM rfl rfl ?_
      refine xT.ca hM rfl rfl rfl rfl rfl rfl (xc_virt rfl rfl rfl hP.cell ⟨rfl, Nat.le_of_ble_eq_true rfl, rfl, Or.inl rfl⟩) rfl ⟨Nat.le_of_ble_eq_true rfl, Nat.le_of_ble_eq_true rfl, by decide⟩ rfl (m_take hE hP ⟨by omega, by omega⟩ (by decide)) (fun v n1 hv => ?_) (fun ce xq h2 he => ⟨_, _, he.pre hN (Nat.le_refl _) (Nat.le_refl _), by omega, by omega⟩)
      obtain ⟨ht4, rfl, fr1, a1, F1, t1, w1, hP1, hN1, q1, q2, q3⟩ := hv
      have ht : t ≠ 0 ∧ t ≠ 1 := by rw [ht4]; decide
      have q4 := q3 ht.1 ht.2
      have hps1 := hP1.ps
      have hfr1 := hP1.frl
      have hres1 := m_res_le hP1
      have d1 := hN1.2.2.1
      have d2 := hN1.2.2.2.1
      have d3 := hN1.2.2.2.2
      obtain ⟨nw, hw⟩ : ∃ n, j_str e h w n := by
        rcases hP.2.1.1 with z | z
        · rw [ht4] at z; exact absurd z (by decide)
        · exact z.2
      obtain ⟨sw, hsw⟩ := hP.2.1.2.2 (ht4.trans (by decide))
      have hw1 := hw.kept hN1.2.1 hP.cell (by decide)
      rw [hsw] at hw1 ⊢
      have hN1x := hN.tr hN1 (Nat.le_refl _) (Nat.le_refl _)
      have hW1 := (hW.kept (m_kp.fr hN1.2.1 hP.cell (Or.inl hql))).wid (u' := n1.length) (by omega)
      refine xT.s1 hM rfl rfl ?_
      refine xT.s1 hM rfl rfl ?_
      refine xT.s1 hM rfl rfl ?_
      refine xT.s1 hM rfl rfl ?_
      refine xT.s1 hM rfl rfl ?_
      refine xT.s1 hM rfl rfl ?_
      have hval := HV d o fr1 a1 F1 t1 w1 n1 hP1 ⟨by omega, by omega⟩ ho (by omega)
      rw [show d + 2 * (60 - o) + 14 = d + 2 * (61 - o) + 12 from by omega] at hval
      refine xT.ca hM rfl rfl rfl rfl rfl rfl (xc_virt rfl rfl rfl hP1.cell ⟨rfl, Nat.le_of_ble_eq_true rfl, rfl, Or.inl rfl⟩) rfl ⟨Nat.le_of_ble_eq_true rfl, Nat.le_of_ble_eq_true rfl, by decide⟩ rfl (hval) (fun v n5 hv => ?_) (fun ce xq h2 he => by
            obtain ⟨cx, zx, k1, k2, k3⟩ := he
            exact ⟨_, _, k1.pre hN1x (Nat.le_refl _) (Nat.le_refl _), by omega, by omega⟩)
      obtain ⟨bx, sx, fr5, a5, F5, t5, w5, cx, zx, rfl, hP5, hT5, q9, q10, q11, hN5, q12, q13⟩ := hv
      have hps5 := hP5.ps
      have hfr5 := hP5.frl
      have i1 := hN5.2.2.1
      have i2 := hN5.2.2.2.1
      have i3 := hN5.2.2.2.2
      obtain ⟨rt5, Fb5, hb5⟩ := hT5.root
      have hW5 := ((hW1).kept (m_kp.fr hN5.2.1 hP1.cell (Or.inl hql))).wid (u' := n5.length) (by omega)
      have hN05 := hN1x.tr hN5 (Nat.le_refl _) (Nat.le_refl _)
      have hw5 := hw1.kept hN5.2.1 hP1.cell (by decide)
      refine xT.go hM rfl rfl rfl rfl rfl rfl (xc_virt rfl rfl rfl hW5.1.1.1 ⟨rfl, Nat.le_of_ble_eq_true rfl, rfl, Or.inl rfl⟩) rfl ⟨Nat.le_of_ble_eq_true rfl, Nat.le_of_ble_eq_true rfl, by decide⟩ (m_vadd hW5.1.1 hb5 (Or.inr ⟨_, hw5⟩) hn9 hn2 (by omega) (by omega)) (fun v n6 hv => ?_)
      obtain ⟨rfl, G6, qp6, qn6, ql6, m6, pf6, nf6, lf6, hV6, u1, u2, u3, u4, u5, u6⟩ := hv
      have gz : (ab_sz n6 = ab_sz n5 ∧ n6.length = List.length n5 ∧ m6 = n) ∨ (ab_sz n6 = ab_sz n5 + 6 * n ∧ n6.length = List.length n5 + 3 ∧ m6 = 2 * n ∧ c = n) := by
        rcases u6 with ⟨z1, -, -, -, z5, z6⟩ | ⟨z1, z2, -, -, -, z6, z7⟩
        · exact Or.inl ⟨z6, z5, z1⟩
        · exact Or.inr ⟨z7, z6, z2, z1⟩
      have hq6 : (qp6 = qp ∧ qn6 = qn ∧ ql6 = ql) ∨ ((List.length n5 ≤ qp6 ∧ qp6 < n6.length) ∧ (List.length n5 ≤ qn6 ∧ qn6 < n6.length) ∧ (List.length n5 ≤ ql6 ∧ ql6 < n6.length)) := by
        rcases u6 with ⟨-, z2, z3, z4, -⟩ | ⟨-, -, z3, z4, z5, z6, -⟩
        · exact Or.inl ⟨z2, z3, z4⟩
        · exact Or.inr (by omega)
      have hVa := hW5.1.1.1
      have hVr := hW5.1.1.2.2.2.1
      have st1 : ∀ (k : Nat) (G : List Value), n5[k]? = some (.inr (9, G)) → n6[k]? = some (.inr (9, G)) := fun k G hk => u5 k _ hk (x_neq hk hVa (by simp)) (x_neq hk hVr.1 (by simp)) (x_neq hk hVr.2.1 (by simp)) (x_neq hk hVr.2.2 (by simp))
      have st2 : ∀ (k n : Nat) (f : Nat → Value), n5[k]? = some (.inl (0, n, f)) → n6[k]? = some (.inl (0, n, f)) := fun k n f hk => u5 k _ hk (x_neq hk hVa (by simp)) (x_neq hk hVr.1 (by simp)) (x_neq hk hVr.2.1 (by simp)) (x_neq hk hVr.2.2 (by simp))
      have hW6 := hW5.add rfl g0 hkd hT5 ⟨by omega, Nat.le_refl _⟩ ⟨Or.inl (by omega), Or.inl (by omega), Or.inl (by omega), Or.inl (by omega)⟩ hV6 u1 u2 u4 u5 (by omega) hq6
      have hP6 := hP5.mv hP0 hN05 (fun k x hk hl => u5 k x hk (by omega) (by omega) (by omega) (by omega)) st1 st2
      have nq : ∀ (k : Nat) (x : ab_E), h0[k]? = some x → k ≠ q → n6[k]? = some x := fun k x hk hn => u5 k x (hN05.2.1 k x hk hn) (by have := x_lt hk; omega) (by have := x_lt hk; omega) (by have := x_lt hk; omega) (by have := x_lt hk; omega)
      have hN06 : m_N h0 q F0 ((C + 33 * m_res gb tp a) + cx + 24) ((Z + 29 * m_res gb tp a) + zx + (ab_sz n6 - ab_sz n5)) n6 F5 := ⟨hN05.1, nq, by omega, by omega, by omega⟩
      refine xT.s1 hM rfl rfl ?_
      refine xT.s2 hM rfl rfl rfl ?_
      refine xT.go hM rfl rfl rfl rfl rfl rfl (xc_virt rfl rfl rfl hP6.cell ⟨rfl, Nat.le_of_ble_eq_true rfl, rfl, Or.inl rfl⟩) rfl ⟨Nat.le_of_ble_eq_true rfl, Nat.le_of_ble_eq_true rfl, by decide⟩ (m_is hP6 (hc _ (by simp))) (fun v n7 hv => ?_)
      obtain ⟨b, rfl, hbb1, hbb2, hh2⟩ := hv
      subst n7
      refine xT.s1 hM rfl rfl ?_
      refine xT.br (fun b5 => ?_) (fun b5 => ?_)
      · refine xT.s1 hM rfl rfl ?_
        exact xT.ret hM rfl rfl rfl rfl (⟨v, s + (1 + sx), fr5, a5, F5, t5, w5, _, _, rfl, hP6, hW6.done, by omega, by omega, by omega, hN06, by omega, by omega⟩)
      · have ht5 : t5 ≠ 0 ∧ t5 ≠ 1 := by
          rcases hbb1 with z | z
          · exact absurd z b5
          · rcases hbb2 z with y | y <;> (rw [y]; decide)
        refine xT.s1 hM rfl rfl ?_
        refine xT.go hM rfl rfl rfl rfl rfl rfl (xc_virt rfl rfl rfl hP6.cell ⟨rfl, Nat.le_of_ble_eq_true rfl, rfl, Or.inl rfl⟩) rfl ⟨Nat.le_of_ble_eq_true rfl, Nat.le_of_ble_eq_true rfl, by decide⟩ (m_adv hE hP6 ⟨by omega, by omega⟩) (fun v n7 hv => ?_)
        obtain ⟨rfl, fr7, a7, F7, t7, w7, hP7, hN7, r1, r2, r3⟩ := hv
        have r4 := r3 ht5.1 ht5.2
        have hps7 := hP7.ps
        have hfr7 := hP7.frl
        have e1 := hN7.2.2.1
        have e2 := hN7.2.2.2.1
        have e3 := hN7.2.2.2.2
        have hW7 := (hW6.kept (m_kp.fr hN7.2.1 hP6.cell (Or.inl hql))).wid hN7.2.2.2.1
        have hN07 := hN06.tr hN7 (Nat.le_refl _) (Nat.le_refl _)
        refine xT.s1 hM rfl rfl ?_
        refine xT.weak (L := [(11, .ref v), (9, .int nm), (0, .ref q), (1, .int p)]) ⟨by simp [ab_put1, x_ci, x_cr, x_cf, x_cn, x_cl2], by simp [ab_put1, x_ci, x_cr, x_cf, x_cn, x_cl2]⟩ (ih fr7 a7 F7 t7 w7 n7 ⟨hP7, hkd, G6, qp6, qn6, ql6, c + 1, m6, pf6, nf6, lf6, s + (1 + sx), _, _, hW7, (u4 0 (by omega)).trans g0, by omega, by omega, by omega, by omega, by omega, by omega, hN07, Or.inr ⟨by omega, by omega⟩⟩ (by omega))
end XBL
