/-! the class: from one state to a later one -/
def c_R (h : ab_H) (qb ql cap sz bh : Nat) (h' : ab_H) (cap' sz' bh' : Nat) : Prop := c_fr h h' qb ql ∧ c_10 h h' ∧ h.length ≤ h'.length ∧ cap ≤ cap' ∧ cap' ≤ 17010 ∧ bh ≤ bh' ∧ sz' ≤ sz + (bh' - bh) ∧ 5 * h'.length + cap ≤ 5 * h.length + 5 * (bh' - bh) + cap' ∧ ab_sz h' + 4 * cap ≤ ab_sz h + 7 * (bh' - bh) + 4 * cap'
theorem c_R.rf {h : ab_H} {qb ql cap sz bh : Nat} (hc : cap ≤ 17010) : c_R h qb ql cap sz bh h cap sz bh := ⟨c_fr.rf _ _ _, c_10.rf _, Nat.le_refl _, Nat.le_refl _, hc, Nat.le_refl _, by omega, by omega, by omega⟩
theorem c_R.tr {h h1 h2 : ab_H} {qb ql cap sz bh cap1 sz1 bh1 cap2 sz2 bh2 : Nat} (a : c_R h qb ql cap sz bh h1 cap1 sz1 bh1) (b : c_R h1 qb ql cap1 sz1 bh1 h2 cap2 sz2 bh2) : c_R h qb ql cap sz bh h2 cap2 sz2 bh2 := by
  obtain ⟨a1, a2, a3, a4, a5, a6, a7, a8, a9⟩ := a
  obtain ⟨b1, b2, b3, b4, b5, b6, b7, b8, b9⟩ := b
  exact ⟨a1.tr b1, a2.tr b2, by omega, by omega, b5, by omega, by omega, by omega, by omega⟩
/-- room for the rest of the tape -/
def c_rm (e : xE) (h : ab_H) (len cap sz bh : Nat) : Prop := sz + (len - bh) ≤ 8000 ∧ cap ≤ 17010 ∧ 5 * h.length + 5 * (len - bh) + (17010 - cap) + 100 ≤ 5 * e.2.2.2.1 ∧ ab_sz h + 7 * (len - bh) + 4 * (17010 - cap) + 20200 ≤ e.2.2.2.2.1
theorem c_R.rm {e : xE} {h h1 : ab_H} {qb ql len cap sz bh cap1 sz1 bh1 : Nat} (a : c_R h qb ql cap sz bh h1 cap1 sz1 bh1) (hr : c_rm e h len cap sz bh) (hb : bh1 ≤ len) : c_rm e h1 len cap1 sz1 bh1 := by
  obtain ⟨a1, a2, a3, a4, a5, a6, a7, a8, a9⟩ := a
  obtain ⟨r1, r2, r3, r4⟩ := hr
  exact ⟨by omega, a5, by omega, by omega⟩
/-- how value ends -/
def c_VN (h : ab_H) (q0 qt qb ql qa : Nat) (gb : Nat → Int32) (len cap sz bh : Nat) (v : Option Value) (h' : ab_H) : Prop := v = none ∧ ∃ (th' ta' qe' cap' sz' : Nat) (kh' : Int32) (bh' eh' : Nat) (ka' : Int32) (ba' ea' : Nat), c_V h' q0 qt qb ql th' ta' qa qe' gb len cap' sz' kh' bh' eh' ka' ba' ea' ∧ c_R h qb ql cap sz bh h' cap' sz' bh' ∧ bh < bh'
def c_VE (h : ab_H) (q0 qt qb ql qa : Nat) (gb : Nat → Int32) (len cap bh : Nat) (ce xq : Nat) (h' : ab_H) : Prop := c_EX h q0 qt qb ql qa gb cap (5 * (len - bh) + 5) (7 * (len - bh) + 6) ce xq h'
section XCW
variable {e : xE} {d q0 qt qb ql th ta qa qe len cap sz bh eh ba ea b : Nat} {gb : Nat → Int32} {h h' : ab_H} {kh ka : Int32} {G G' : List Value}
theorem c_R.ex {h1 : ab_H} {cap1 sz1 bh1 ce xq : Nat} (a : c_R h qb ql cap sz bh h1 cap1 sz1 bh1) (hb : bh1 ≤ len) (k : c_VE h1 q0 qt qb ql qa gb len cap1 bh1 ce xq h') : c_VE h q0 qt qb ql qa gb len cap bh ce xq h' := by
  obtain ⟨a1, a2, a3, a4, a5, a6, a7, a8, a9⟩ := a
  exact k.pre a1 a4 a3 (by omega) (by omega)
theorem c_EX.ve {ce xq : Nat} (k : c_EX h q0 qt qb ql qa gb cap 5 6 ce xq h') : c_VE h q0 qt qb ql qa gb len cap bh ce xq h' := k.pre (c_fr.rf _ _ _) (Nat.le_refl _) (Nat.le_refl _) (by omega) (by omega)
/-- one node's field has changed -/
theorem c_V.node (hV : c_V h q0 qt qb ql th ta qa qe gb len cap sz kh bh eh ka ba ea) (u : x_up h b h' (.inr (10, G'))) (hb : h[b]? = some (.inr (10, G))) (hG : c_nt G') (hc : cap ≤ 17010) : c_V h' q0 qt qb ql th ta qa qe gb len cap sz kh bh eh ka ba ea ∧ c_R h qb ql cap sz bh h' cap sz bh := by
  obtain ⟨hS, r⟩ := hV
  obtain ⟨s1, s2, s3⟩ := hS.node u hb hG
  exact ⟨⟨s1, r⟩, s2, s3, by rw [u.2.2.1]; exact Nat.le_refl _, Nat.le_refl _, hc, Nat.le_refl _, by omega, by rw [u.2.2.1]; omega, by rw [u.2.2.2]; omega⟩
theorem c_V.nt (hV : c_V h q0 qt qb ql th ta qa qe gb len cap sz kh bh eh ka ba ea) (hb : h[b]? = some (.inr (10, G))) : c_nt G := hV.1.2.2.2.2.2.2 b G hb
theorem c_nt.put {i : Nat} {v : Value} (hG : c_nt G) (hl : G'.length = G.length) (fb : G'[i]? = some v) (fo : ∀ j, j ≠ i → G'[j]? = G[j]?) (hi : (i = 0 ∧ ∃ x, v = .int x) ∨ (i = 4 ∧ ∃ x, v = .long x) ∨ (i = 5 ∧ ∃ x, v = .int x)) : c_nt G' := by
  obtain ⟨g, ⟨z0, g0⟩, ⟨z1, g1⟩, ⟨z2, g2⟩, ⟨z3, g3⟩, ⟨z4, g4⟩, ⟨z5, g5⟩, a6, g6, l6⟩ := hG
  rcases hi with ⟨rfl, x, rfl⟩ | ⟨rfl, x, rfl⟩ | ⟨rfl, x, rfl⟩
  · exact ⟨hl.trans g, ⟨_, fb⟩, ⟨_, (fo 1 (by decide)).trans g1⟩, ⟨_, (fo 2 (by decide)).trans g2⟩, ⟨_, (fo 3 (by decide)).trans g3⟩, ⟨_, (fo 4 (by decide)).trans g4⟩, ⟨_, (fo 5 (by decide)).trans g5⟩, a6, (fo 6 (by decide)).trans g6, l6⟩
  · exact ⟨hl.trans g, ⟨_, (fo 0 (by decide)).trans g0⟩, ⟨_, (fo 1 (by decide)).trans g1⟩, ⟨_, (fo 2 (by decide)).trans g2⟩, ⟨_, (fo 3 (by decide)).trans g3⟩, ⟨_, fb⟩, ⟨_, (fo 5 (by decide)).trans g5⟩, a6, (fo 6 (by decide)).trans g6, l6⟩
  · exact ⟨hl.trans g, ⟨_, (fo 0 (by decide)).trans g0⟩, ⟨_, (fo 1 (by decide)).trans g1⟩, ⟨_, (fo 2 (by decide)).trans g2⟩, ⟨_, (fo 3 (by decide)).trans g3⟩, ⟨_, (fo 4 (by decide)).trans g4⟩, ⟨_, fb⟩, a6, (fo 6 (by decide)).trans g6, l6⟩
/-- add, of a whole state -/
theorem c_addV {c : Int32} (hV : c_V h q0 qt qb ql th ta qa qe gb len cap sz kh bh eh ka ba ea) (hr : c_rm e h len cap sz bh) : xT e (d + 7) 113 0 [(0, .ref q0), (1, .int c)] [] h (fun o h' => ∃ v, o = .inl v ∧ ∃ nb, v = some (.ref nb) ∧ (∃ G, h'[nb]? = some (.inr (10, G))) ∧ ∃ qe' cap', c_V h' q0 qt qb ql th ta qa qe' gb len cap' (sz + 1) kh bh eh ka ba ea ∧ c_fr h h' qb ql ∧ c_10 h h' ∧ h.length ≤ h'.length ∧ 5 * h'.length + cap ≤ 5 * h.length + 5 + cap' ∧ ab_sz h' + 4 * cap ≤ ab_sz h + 7 + 4 * cap' ∧ cap ≤ cap' ∧ cap' ≤ 17010) := by
  obtain ⟨hS, rest⟩ := hV
  obtain ⟨r1, r2, r3, r4⟩ := hr
  refine (c_addN hS (by omega) (by omega) (by omega)).mono (fun o h' ho => ?_)
  obtain ⟨v, y1, nb, y2, y3, qe', cap', y4, y5, y6, y7, y8, y9, y10, y11⟩ := ho
  exact ⟨v, y1, nb, y2, y3, qe', cap', ⟨y4, rest⟩, y5, y6, y7, y8, y9, y10, by rcases y11 with z | z <;> omega⟩
/-- add, then advance: the token is passed -/
theorem c_R.aa {h1 h2 : ab_H} {cap1 bb : Nat} (f1 : c_fr h h1 qb ql) (t1 : c_10 h h1) (l1 : h.length ≤ h1.length) (m1 : 5 * h1.length + cap ≤ 5 * h.length + 5 + cap1) (m2 : ab_sz h1 + 4 * cap ≤ ab_sz h + 7 + 4 * cap1) (m3 : cap ≤ cap1) (m4 : cap1 ≤ 17010) (hb : bh < bb) (f2 : c_fr h1 h2 qb ql) (t2 : c_10 h1 h2) (l2 : h2.length = h1.length) (s2 : ab_sz h2 = ab_sz h1) : c_R h qb ql cap sz bh h2 cap1 (sz + 1) bb := ⟨f1.tr f2, t1.tr t2, by omega, m3, m4, by omega, by omega, by omega, by omega⟩
theorem c_negative (hE : e.1 = .null ∨ ∃ w, e.1 = .float w) (hV : c_V h q0 qt qb ql th ta qa qe gb len cap sz kh bh eh ka ba ea) (hr : c_rm e h len cap sz bh) (hk : kh ≠ 26 ∧ kh ≠ 27) : xT e (d + 8) 107 0 [(0, .ref q0)] [] h (x_Q (c_VN h q0 qt qb ql qa gb len cap sz bh) (c_VE h q0 qt qb ql qa gb len cap bh)) := by
  have hM : (x_mt e.1)[107]? = some xM107 := rfl
  obtain ⟨⟨F0, hq, lq, p0, p1, ⟨zp, p2⟩⟩, ⟨Ft, gl, kp, hT⟩, hH, hA, hht, ⟨Fa, ef, hL⟩, hY⟩ := id hV.1
  obtain ⟨ht, lt, t0, t1, t2, t3, t4, t5, hb8, hl8, k4, l4, hne⟩ := id hT
  obtain ⟨Fh, u0, u1, u2, u3, u5, ⟨x3, u6⟩, ⟨x4, u7⟩, ⟨x5, u8⟩⟩ := id hH
  obtain ⟨Fx, w0, w1, w2, w3, w5, ⟨y3, w6⟩, ⟨y4, w7⟩, ⟨y5, w8⟩⟩ := id hA
  have ha := hL.1
  have hba := hV.2.2.2.2.2
  refine xT.s1 hM rfl rfl ?_
  refine xT.s1 hM rfl rfl ?_
  refine xT.go hM rfl rfl rfl rfl rfl rfl (xc_virt rfl rfl rfl hq ⟨rfl, Nat.le_of_ble_eq_true rfl, rfl, Or.inl rfl⟩) rfl ⟨Nat.le_of_ble_eq_true rfl, Nat.le_of_ble_eq_true rfl, by decide⟩ (c_addV hV hr) (fun v h1 hv => ?_)
  obtain ⟨nb, rfl, ⟨Gnb, hnb⟩, qeh1, caph1, hVh1, fh1, th1, lh1, mah1, mbh1, mch1, mdh1⟩ := hv
  obtain ⟨⟨F0, hq, lq, p0, p1, ⟨zp, p2⟩⟩, ⟨Ft, gl, kp, hT⟩, hH, hA, hht, ⟨Fa, ef, hL⟩, hY⟩ := id hVh1.1
  obtain ⟨ht, lt, t0, t1, t2, t3, t4, t5, hb8, hl8, k4, l4, hne⟩ := id hT
  obtain ⟨Fh, u0, u1, u2, u3, u5, ⟨x3, u6⟩, ⟨x4, u7⟩, ⟨x5, u8⟩⟩ := id hH
  obtain ⟨Fx, w0, w1, w2, w3, w5, ⟨y3, w6⟩, ⟨y4, w7⟩, ⟨y5, w8⟩⟩ := id hA
  have ha := hL.1
  refine xT.s1 hM rfl rfl ?_
  refine xT.s1 hM rfl rfl ?_
  refine xT.s2 hM rfl rfl (x2_get rfl (Or.inl rfl) hq p0) ?_
  refine xT.go hM rfl rfl rfl rfl rfl rfl (xc_virt rfl rfl rfl ht ⟨rfl, Nat.le_of_ble_eq_true rfl, rfl, Or.inl rfl⟩) rfl ⟨Nat.le_of_ble_eq_true rfl, Nat.le_of_ble_eq_true rfl, by decide⟩ (c_advV hE hVh1) (fun v h2 hv => ?_)
  obtain ⟨rfl, kdh2, bbh2, enh2, hVh2, prh2, fh2, th2, lh2, zh2⟩ := hv
  have p1 := prh2 hk.1 hk.2
  have R2 : c_R h qb ql cap sz bh h2 caph1 (sz + 1) ba := c_R.aa fh1 th1 lh1 mah1 mbh1 mch1 mdh1 p1 fh2 th2 lh2 zh2
  have rm2 := R2.rm hr hba
  obtain ⟨x1, x2, x3x, x4x⟩ := id rm2
  obtain ⟨⟨F0, hq, lq, p0, p1, ⟨zp, p2⟩⟩, ⟨Ft, gl, kp, hT⟩, hH, hA, hht, ⟨Fa, ef, hL⟩, hY⟩ := id hVh2.1
  obtain ⟨ht, lt, t0, t1, t2, t3, t4, t5, hb8, hl8, k4, l4, hne⟩ := id hT
  obtain ⟨Fh, u0, u1, u2, u3, u5, ⟨x3, u6⟩, ⟨x4, u7⟩, ⟨x5, u8⟩⟩ := id hH
  obtain ⟨Fx, w0, w1, w2, w3, w5, ⟨y3, w6⟩, ⟨y4, w7⟩, ⟨y5, w8⟩⟩ := id hA
  have ha := hL.1
  refine xT.s1 hM rfl rfl ?_
  refine xT.s1 hM rfl rfl ?_
  refine xT.ca hM rfl rfl rfl rfl rfl rfl (xc_virt rfl rfl rfl hq ⟨rfl, Nat.le_of_ble_eq_true rfl, rfl, Or.inl rfl⟩) rfl ⟨Nat.le_of_ble_eq_true rfl, Nat.le_of_ble_eq_true rfl, by decide⟩ rfl (c_demand hVh2.1 x2 (by omega) (by omega)) (fun v h3 hv => ?_) (fun ce xq h3 he => R2.ex (by omega) he.ve)
  obtain ⟨rfl, hh3, hk2⟩ := hv
  subst h3
  obtain ⟨Gn, hn⟩ := th2 _ _ hnb
  have hnt := hVh2.nt hn
  refine xT.s1 hM rfl rfl ?_
  refine xT.s1 hM rfl rfl ?_
  refine xT.s2 hM rfl rfl (x2_get rfl (Or.inl rfl) hq p0) ?_
  refine xT.s2 hM rfl rfl (x2_get rfl (Or.inl rfl) ht t4) ?_
  refine xT.s2 hM rfl rfl (x2_get rfl (Or.inl rfl) u0 u8) ?_
  refine xT.s1 hM rfl rfl ?_
  refine xT.put hM rfl rfl hn (Or.inl rfl) (by rw [hnt.1]; decide) (rfl) (Or.inl rfl) (fun h4 G4 eF eh4 up fb fo fl => ?_)
  obtain ⟨hV4, R4⟩ := hVh2.node up hn (hnt.put fl fb fo (Or.inr (Or.inl ⟨rfl, _, rfl⟩))) x2
  have R24 := R2.tr R4
  obtain ⟨⟨F0, hq, lq, p0, p1, ⟨zp, p2⟩⟩, ⟨Ft, gl, kp, hT⟩, hH, hA, hht, ⟨Fa, ef, hL⟩, hY⟩ := id hV4.1
  obtain ⟨ht, lt, t0, t1, t2, t3, t4, t5, hb8, hl8, k4, l4, hne⟩ := id hT
  obtain ⟨Fh, u0, u1, u2, u3, u5, ⟨x3, u6⟩, ⟨x4, u7⟩, ⟨x5, u8⟩⟩ := id hH
  obtain ⟨Fx, w0, w1, w2, w3, w5, ⟨y3, w6⟩, ⟨y4, w7⟩, ⟨y5, w8⟩⟩ := id hA
  have ha := hL.1
  refine xT.s1 hM rfl rfl ?_
  refine xT.s2 hM rfl rfl (x2_get rfl (Or.inl rfl) hq p0) ?_
  refine xT.go hM rfl rfl rfl rfl rfl rfl (xc_virt rfl rfl rfl ht ⟨rfl, Nat.le_of_ble_eq_true rfl, rfl, Or.inl rfl⟩) rfl ⟨Nat.le_of_ble_eq_true rfl, Nat.le_of_ble_eq_true rfl, by decide⟩ (c_advV hE hV4) (fun v h5 hv => ?_)
  obtain ⟨rfl, kdh5, bbh5, enh5, hVh5, prh5, fh5, th5, lh5, zh5⟩ := hv
  have p5 := prh5 (by rw [hk2]; decide) (by rw [hk2]; decide)
  have R5 : c_R h4 qb ql caph1 (sz + 1) ba h5 caph1 (sz + 1) bbh2 := ⟨fh5, th5, by omega, Nat.le_refl _, x2, by omega, by omega, by omega, by omega⟩
  exact xT.ret hM rfl rfl rfl rfl (⟨rfl, _, _, _, _, _, _, _, _, _, _, _, hVh5, R24.tr R5, by omega⟩)
theorem c_idw (hE : e.1 = .null ∨ ∃ w, e.1 = .float w) (hV : c_V h q0 qt qb ql th ta qa qe gb len cap sz kh bh eh ka ba ea) (hr : c_rm e h len cap sz bh) : xT e (d + 8) 111 0 [(0, .ref q0)] [] h (x_Q (fun v h' => ∃ nb, v = some (.ref nb) ∧ (∃ G, h'[nb]? = some (.inr (10, G))) ∧ c_VN h q0 qt qb ql qa gb len cap sz bh none h') (c_VE h q0 qt qb ql qa gb len cap bh)) := by
  have hM : (x_mt e.1)[111]? = some xM111 := rfl
  obtain ⟨⟨F0, hq, lq, p0, p1, ⟨zp, p2⟩⟩, ⟨Ft, gl, kp, hT⟩, hH, hA, hht, ⟨Fa, ef, hL⟩, hY⟩ := id hV.1
  obtain ⟨ht, lt, t0, t1, t2, t3, t4, t5, hb8, hl8, k4, l4, hne⟩ := id hT
  obtain ⟨Fh, u0, u1, u2, u3, u5, ⟨x3, u6⟩, ⟨x4, u7⟩, ⟨x5, u8⟩⟩ := id hH
  obtain ⟨Fx, w0, w1, w2, w3, w5, ⟨y3, w6⟩, ⟨y4, w7⟩, ⟨y5, w8⟩⟩ := id hA
  have ha := hL.1
  have hba := hV.2.2.2.2.2
  obtain ⟨x1, x2, x3x, x4x⟩ := id hr
  refine xT.s1 hM rfl rfl ?_
  refine xT.s1 hM rfl rfl ?_
  refine xT.ca hM rfl rfl rfl rfl rfl rfl (xc_virt rfl rfl rfl hq ⟨rfl, Nat.le_of_ble_eq_true rfl, rfl, Or.inl rfl⟩) rfl ⟨Nat.le_of_ble_eq_true rfl, Nat.le_of_ble_eq_true rfl, by decide⟩ rfl (c_demand hV.1 x2 (by omega) (by omega)) (fun v h3 hv => ?_) (fun ce xq h3 he => he.ve)
  obtain ⟨rfl, hh3, hk2⟩ := hv
  subst h3
  refine xT.s1 hM rfl rfl ?_
  refine xT.s1 hM rfl rfl ?_
  refine xT.go hM rfl rfl rfl rfl rfl rfl (xc_virt rfl rfl rfl hq ⟨rfl, Nat.le_of_ble_eq_true rfl, rfl, Or.inl rfl⟩) rfl ⟨Nat.le_of_ble_eq_true rfl, Nat.le_of_ble_eq_true rfl, by decide⟩ (c_addV hV hr) (fun v h1 hv => ?_)
  obtain ⟨nb, rfl, ⟨Gnb, hnb⟩, qeh1, caph1, hVh1, fh1, th1, lh1, mah1, mbh1, mch1, mdh1⟩ := hv
  have hnt := hVh1.nt hnb
  obtain ⟨⟨F0, hq, lq, p0, p1, ⟨zp, p2⟩⟩, ⟨Ft, gl, kp, hT⟩, hH, hA, hht, ⟨Fa, ef, hL⟩, hY⟩ := id hVh1.1
  obtain ⟨ht, lt, t0, t1, t2, t3, t4, t5, hb8, hl8, k4, l4, hne⟩ := id hT
  obtain ⟨Fh, u0, u1, u2, u3, u5, ⟨x3, u6⟩, ⟨x4, u7⟩, ⟨x5, u8⟩⟩ := id hH
  obtain ⟨Fx, w0, w1, w2, w3, w5, ⟨y3, w6⟩, ⟨y4, w7⟩, ⟨y5, w8⟩⟩ := id hA
  have ha := hL.1
  refine xT.s1 hM rfl rfl ?_
  refine xT.s1 hM rfl rfl ?_
  refine xT.s1 hM rfl rfl ?_
  refine xT.put hM rfl rfl hnb (Or.inl rfl) (by rw [hnt.1]; decide) (rfl) (Or.inl rfl) (fun h4 G4 eF eh4 up fb fo fl => ?_)
  obtain ⟨hV4, R4⟩ := hVh1.node up hnb (hnt.put fl fb fo (Or.inr (Or.inr ⟨rfl, _, rfl⟩))) mdh1
  obtain ⟨⟨F0, hq, lq, p0, p1, ⟨zp, p2⟩⟩, ⟨Ft, gl, kp, hT⟩, hH, hA, hht, ⟨Fa, ef, hL⟩, hY⟩ := id hV4.1
  obtain ⟨ht, lt, t0, t1, t2, t3, t4, t5, hb8, hl8, k4, l4, hne⟩ := id hT
  obtain ⟨Fh, u0, u1, u2, u3, u5, ⟨x3, u6⟩, ⟨x4, u7⟩, ⟨x5, u8⟩⟩ := id hH
  obtain ⟨Fx, w0, w1, w2, w3, w5, ⟨y3, w6⟩, ⟨y4, w7⟩, ⟨y5, w8⟩⟩ := id hA
  have ha := hL.1
  refine xT.s1 hM rfl rfl ?_
  refine xT.s2 hM rfl rfl (x2_get rfl (Or.inl rfl) hq p0) ?_
  refine xT.go hM rfl rfl rfl rfl rfl rfl (xc_virt rfl rfl rfl ht ⟨rfl, Nat.le_of_ble_eq_true rfl, rfl, Or.inl rfl⟩) rfl ⟨Nat.le_of_ble_eq_true rfl, Nat.le_of_ble_eq_true rfl, by decide⟩ (c_advV hE hV4) (fun v h5 hv => ?_)
  obtain ⟨rfl, kdh5, bbh5, enh5, hVh5, prh5, fh5, th5, lh5, zh5⟩ := hv
  have p5 := prh5 (by rw [hk2]; decide) (by rw [hk2]; decide)
  have l4 := up.2.2.1
  have z4 := up.2.2.2
  have R5 : c_R h qb ql cap sz bh h5 caph1 (sz + 1) ba := c_R.aa (fh1.tr R4.1) (th1.tr R4.2.1) (by omega) (by omega) (by omega) mch1 mdh1 p5 fh5 th5 lh5 zh5
  obtain ⟨Gn, hn⟩ := (R4.2.1.tr th5) _ _ hnb
  refine xT.s1 hM rfl rfl ?_
  exact xT.ret hM rfl rfl rfl rfl (⟨nb, rfl, ⟨Gn, hn⟩, rfl, _, _, _, _, _, _, _, _, _, _, _, hVh5, R5, p5⟩)
end XCW
