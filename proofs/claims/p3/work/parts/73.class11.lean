/-! the class: braces, value, start, read -/
section XCY
variable {e : xE} {d q0 qt qb ql th ta qa qe len cap sz bh eh ba ea b o N nw : Nat} {gb : Nat → Int32} {h h' h0 : ab_H} {kh ka : Int32} {G G' : List Value}
theorem c_braces (hE : e.1 = .null ∨ ∃ w, e.1 = .float w) (hV : c_V h q0 qt qb ql th ta qa qe gb len cap sz kh bh eh ka ba ea) (hr : c_rm e h len cap sz bh) (HV : c_VC e q0 qt qb ql qa gb len N) (hN : len - bh < N + 1) (ho : o ≤ 60) (hk : kh = 21) : xT e (d + 2 * (60 - o) + 13) 108 0 [(0, .ref q0), (1, .int (nI o))] [] h (x_Q (c_VN h q0 qt qb ql qa gb len cap sz bh) (c_VE h q0 qt qb ql qa gb len cap bh)) := by
  have hM : (x_mt e.1)[108]? = some xM108 := rfl
  obtain ⟨⟨F0, hq, lq, p0, p1, ⟨zp, p2⟩⟩, ⟨Ft, gl, kp, hT⟩, hH, hA, hht, ⟨Fa, ef, hL⟩, hY⟩ := id hV.1
  obtain ⟨ht, lt, t0, t1, t2, t3, t4, t5, hb8, hl8, k4, l4, hne⟩ := id hT
  obtain ⟨Fh, u0, u1, u2, u3, u5, ⟨x3, u6⟩, ⟨x4, u7⟩, ⟨x5, u8⟩⟩ := id hH
  obtain ⟨Fx, w0, w1, w2, w3, w5, ⟨y3, w6⟩, ⟨y4, w7⟩, ⟨y5, w8⟩⟩ := id hA
  have ha := hL.1
  obtain ⟨hbl, hba⟩ := hV.bl
  obtain ⟨x1, x2, x3x, x4x⟩ := id hr
  refine xT.s1 hM rfl rfl ?_
  refine xT.s1 hM rfl rfl ?_
  refine xT.s1 hM rfl rfl ?_
  refine xT.br (fun b0 => ?_) (fun b0 => ?_)
  · have ho1 : o < 60 := (nI_ltI (b := 60) (by omega) (by omega)).mp b0
    refine xT.s1 hM rfl rfl ?_
    refine xT.s1 hM rfl rfl ?_
    refine xT.go hM rfl rfl rfl rfl rfl rfl (xc_virt rfl rfl rfl hq ⟨rfl, Nat.le_of_ble_eq_true rfl, rfl, Or.inl rfl⟩) rfl ⟨Nat.le_of_ble_eq_true rfl, Nat.le_of_ble_eq_true rfl, by decide⟩ (c_addV hV hr) (fun v h1 hv => ?_)
    obtain ⟨nb, rfl, ⟨Gnb, hnb⟩, qeh1, caph1, hVh1, fh1, th1, lh1, mah1, mbh1, mch1, mdh1⟩ := hv
    obtain ⟨⟨F0, hq, lq, p0, p1, ⟨zp, p2⟩⟩, ⟨Ft, gl, kp, hT⟩, hH, hA, hht, ⟨Fa, ef, hL⟩, hY⟩ := id hVh1.1
    obtain ⟨ht, lt, t0, t1, t2, t3, t4, t5, hb8, hl8, k4, l4, hne⟩ := id hT
    obtain ⟨Fh, u0, u1, u2, u3, u5, ⟨x3, u6⟩, ⟨x4, u7⟩, ⟨x5, u8⟩⟩ := id hH
    obtain ⟨Fx, w0, w1, w2, w3, w5, ⟨y3, w6⟩, ⟨y4, w7⟩, ⟨y5, w8⟩⟩ := id hA
    have ha := hL.1
    refine xT.s1 hM rfl rfl ?_
    refine xT.s1 hM rfl rfl ?_
    refine xT.s2 hM rfl rfl (x2_get rfl (Or.inl rfl) hq p0) ?_
    refine xT.go hM rfl rfl rfl rfl rfl rfl (xc_virt rfl rfl rfl ht ⟨rfl, Nat.le_of_ble_eq_true rfl, rfl, Or.inl rfl⟩) rfl ⟨Nat.le_of_ble_eq_true rfl, Nat.le_of_ble_eq_true rfl, by decide⟩ (c_advV hE hVh1) (fun v h2 hv => ?_)
    obtain ⟨rfl, kdh2, bbh2, enh2, hVh2, prh2, fh2, th2, lh2, zh2⟩ := hv
    have pb1 := prh2 (by rw [hk]; decide) (by rw [hk]; decide)
    have R2 : c_R h qb ql cap sz bh h2 caph1 (sz + 1) ba := c_R.aa fh1 th1 lh1 mah1 mbh1 mch1 mdh1 pb1 fh2 th2 lh2 zh2
    have rm2 := R2.rm hr hba
    obtain ⟨G2, hn2⟩ := th2 _ _ hnb
    have hnt2 := hVh2.nt hn2
    have j46 : ∀ (th ta qe cap1 sz1 : Nat) (kh : Int32) (bh1 eh : Nat) (ka : Int32) (ba ea : Nat) (h1 : ab_H), c_V h1 q0 qt qb ql th ta qa qe gb len cap1 sz1 kh bh1 eh ka ba ea → c_R h qb ql cap sz bh h1 cap1 sz1 bh1 → bh < bh1 → c_rm e h1 len cap1 sz1 bh1 → (∃ G, h1[nb]? = some (.inr (10, G))) → xT e (d + 2 * (60 - o) + 13) 108 46 [(2, .ref nb), (0, .ref q0), (1, .int (nI o))] [] h1 (x_Q (c_VN h q0 qt qb ql qa gb len cap sz bh) (c_VE h q0 qt qb ql qa gb len cap bh)) := by
      intro th ta qe cap1 sz1 kh bh1 eh ka ba ea h1 hV1 R1 hb1 rm1 hw
      obtain ⟨Gw, hw0⟩ := id hw
      have hnt := hV1.nt hw0
      obtain ⟨zk, g0⟩ := hnt.2.1
      refine xT.s1 hM rfl rfl ?_
      refine xT.s2 hM rfl rfl (x2_get rfl (Or.inl rfl) hw0 g0) ?_
      refine xT.s1 hM rfl rfl ?_
      refine xT.s1 hM rfl rfl ?_
      refine xT.br (fun c1 => ?_) (fun c1 => ?_)
      · refine xT.s1 hM rfl rfl ?_
        refine xT.s1 hM rfl rfl ?_
        refine xT.s1 hM rfl rfl ?_
        refine xT.s1 hM rfl rfl ?_
        refine xT.s1 hM rfl rfl ?_
        exact c_brLoop hE HV ho1 (len + 1) _ _ _ _ _ _ _ _ _ _ _ _ _ h1 (by omega) hV1 R1 ⟨by omega, hb1⟩ rm1 hw
      · refine xT.s1 hM rfl rfl ?_
        refine xT.s2 hM rfl rfl (x2_get rfl (Or.inl rfl) hw0 g0) ?_
        refine xT.s1 hM rfl rfl ?_
        refine xT.s1 hM rfl rfl ?_
        refine xT.br (fun c2 => ?_) (fun c2 => ?_)
        · refine xT.s1 hM rfl rfl ?_
          refine xT.s1 hM rfl rfl ?_
          refine xT.s1 hM rfl rfl ?_
          refine xT.s1 hM rfl rfl ?_
          refine xT.s1 hM rfl rfl ?_
          exact c_brLoop hE HV ho1 (len + 1) _ _ _ _ _ _ _ _ _ _ _ _ _ h1 (by omega) hV1 R1 ⟨by omega, hb1⟩ rm1 hw
        · refine xT.s1 hM rfl rfl ?_
          refine xT.s1 hM rfl rfl ?_
          refine xT.s1 hM rfl rfl ?_
          refine xT.s1 hM rfl rfl ?_
          exact c_brLoop hE HV ho1 (len + 1) _ _ _ _ _ _ _ _ _ _ _ _ _ h1 (by omega) hV1 R1 ⟨by omega, hb1⟩ rm1 hw
    obtain ⟨⟨F0, hq, lq, p0, p1, ⟨zp, p2⟩⟩, ⟨Ft, gl, kp, hT⟩, hH, hA, hht, ⟨Fa, ef, hL⟩, hY⟩ := id hVh2.1
    obtain ⟨ht, lt, t0, t1, t2, t3, t4, t5, hb8, hl8, k4, l4, hne⟩ := id hT
    obtain ⟨Fh, u0, u1, u2, u3, u5, ⟨x3, u6⟩, ⟨x4, u7⟩, ⟨x5, u8⟩⟩ := id hH
    obtain ⟨Fx, w0, w1, w2, w3, w5, ⟨y3, w6⟩, ⟨y4, w7⟩, ⟨y5, w8⟩⟩ := id hA
    have ha := hL.1
    refine xT.s1 hM rfl rfl ?_
    refine xT.s1 hM rfl rfl ?_
    refine xT.go hM rfl rfl rfl rfl rfl rfl (xc_virt rfl rfl rfl hq ⟨rfl, Nat.le_of_ble_eq_true rfl, rfl, Or.inl rfl⟩) rfl ⟨Nat.le_of_ble_eq_true rfl, Nat.le_of_ble_eq_true rfl, by decide⟩ (c_form hVh2.1) (fun v h3 hv => ?_)
    obtain ⟨⟨y, rfl⟩, hh3⟩ := hv
    subst h3
    refine xT.put hM rfl rfl hn2 (Or.inl rfl) (by rw [hnt2.1]; decide) (rfl) (Or.inl rfl) (fun h4 G4 eF eh4 up fb fo fl => ?_)
    obtain ⟨hV4, R4⟩ := hVh2.node up hn2 (hnt2.put fl fb fo (Or.inl ⟨rfl, _, rfl⟩)) mdh1
    have R24 := R2.tr R4
    have rm4 := R4.rm rm2 hba
    have hn4 := up.1
    obtain ⟨⟨F0, hq, lq, p0, p1, ⟨zp, p2⟩⟩, ⟨Ft, gl, kp, hT⟩, hH, hA, hht, ⟨Fa, ef, hL⟩, hY⟩ := id hV4.1
    obtain ⟨ht, lt, t0, t1, t2, t3, t4, t5, hb8, hl8, k4, l4, hne⟩ := id hT
    obtain ⟨Fh, u0, u1, u2, u3, u5, ⟨x3, u6⟩, ⟨x4, u7⟩, ⟨x5, u8⟩⟩ := id hH
    obtain ⟨Fx, w0, w1, w2, w3, w5, ⟨y3, w6⟩, ⟨y4, w7⟩, ⟨y5, w8⟩⟩ := id hA
    have ha := hL.1
    refine xT.s1 hM rfl rfl ?_
    refine xT.s2 hM rfl rfl (x2_get rfl (Or.inl rfl) hn4 fb) ?_
    refine xT.s1 hM rfl rfl ?_
    refine xT.s1 hM rfl rfl ?_
    refine xT.br (fun b13 => ?_) (fun b13 => ?_)
    · refine xT.s1 hM rfl rfl ?_
      refine xT.s1 hM rfl rfl ?_
      refine xT.go hM rfl rfl rfl rfl rfl rfl (xc_virt rfl rfl rfl hq ⟨rfl, Nat.le_of_ble_eq_true rfl, rfl, Or.inl rfl⟩) rfl ⟨Nat.le_of_ble_eq_true rfl, Nat.le_of_ble_eq_true rfl, by decide⟩ (c_numbers hE hV4 rm4 ⟨G4, hn4⟩) (fun v h5 hv => ?_)
      obtain ⟨rfl, th5, ta5, qe5, cap5, sz5, kh5, bh5, eh5, ka5, ba5, ea5, hV5, R5⟩ := hv
      obtain ⟨G5, hn5⟩ := R5.2.1 _ _ hn4
      have lb5 := R5.2.2.2.2.2.1
      have bl5 := hV5.bl
      exact j46 _ _ _ _ _ _ _ _ _ _ _ h5 hV5 (R24.tr R5) (by omega) (R5.rm rm4 (by omega)) ⟨G5, hn5⟩
    · exact j46 _ _ _ _ _ _ _ _ _ _ _ h4 hV4 R24 pb1 rm4 ⟨G4, hn4⟩
  · refine xT.s1 hM rfl rfl ?_
    refine xT.ca hM rfl rfl rfl rfl rfl rfl (xc_virt rfl rfl rfl hq ⟨rfl, Nat.le_of_ble_eq_true rfl, rfl, Or.inl rfl⟩) rfl ⟨Nat.le_of_ble_eq_true rfl, Nat.le_of_ble_eq_true rfl, by decide⟩ rfl (c_refuse hV.1 x2 (by omega) (by omega)) (fun v h3 hv => ?_) (fun ce xq h3 he => he.ve)
    exact hv.elim
theorem c_valueS (hE : e.1 = .null ∨ ∃ w, e.1 = .float w) (HV : c_VC e q0 qt qb ql qa gb len N) : c_VC e q0 qt qb ql qa gb len (N + 1) := by
  intro d o th ta qe cap sz kh bh eh ka ba ea h hV hr ho hN
  have hM : (x_mt e.1)[105]? = some xM105 := rfl
  obtain ⟨⟨F0, hq, lq, p0, p1, ⟨zp, p2⟩⟩, ⟨Ft, gl, kp, hT⟩, hH, hA, hht, ⟨Fa, ef, hL⟩, hY⟩ := id hV.1
  obtain ⟨ht, lt, t0, t1, t2, t3, t4, t5, hb8, hl8, k4, l4, hne⟩ := id hT
  obtain ⟨Fh, u0, u1, u2, u3, u5, ⟨x3, u6⟩, ⟨x4, u7⟩, ⟨x5, u8⟩⟩ := id hH
  obtain ⟨Fx, w0, w1, w2, w3, w5, ⟨y3, w6⟩, ⟨y4, w7⟩, ⟨y5, w8⟩⟩ := id hA
  have ha := hL.1
  obtain ⟨hbl, hba⟩ := hV.bl
  obtain ⟨x1, x2, x3x, x4x⟩ := id hr
  refine xT.s1 hM rfl rfl ?_
  refine xT.s2 hM rfl rfl (x2_get rfl (Or.inl rfl) hq p0) ?_
  refine xT.s2 hM rfl rfl (x2_get rfl (Or.inl rfl) ht t4) ?_
  refine xT.s2 hM rfl rfl (x2_get rfl (Or.inl rfl) u0 u2) ?_
  refine xT.s1 hM rfl rfl ?_
  refine xT.s1 hM rfl rfl ?_
  refine xT.s1 hM rfl rfl ?_
  refine xT.s1 hM rfl rfl ?_
  refine xT.br (fun b1 => ?_) (fun b1 => ?_)
  · refine xT.s1 hM rfl rfl ?_
    refine xT.s1 hM rfl rfl ?_
    refine xT.ca hM rfl rfl rfl rfl rfl rfl (xc_virt rfl rfl rfl hq ⟨rfl, Nat.le_of_ble_eq_true rfl, rfl, Or.inl rfl⟩) rfl ⟨Nat.le_of_ble_eq_true rfl, Nat.le_of_ble_eq_true rfl, by decide⟩ rfl (c_braces hE hV hr HV hN ho b1) (fun v h3 hv => ?_) (fun ce xq h3 he => he)
    obtain ⟨rfl, hv⟩ := hv
    refine xT.s1 hM rfl rfl ?_
    exact xT.ret hM rfl rfl rfl rfl (⟨rfl, hv⟩)
  · refine xT.s1 hM rfl rfl ?_
    refine xT.s1 hM rfl rfl ?_
    refine xT.s1 hM rfl rfl ?_
    refine xT.br (fun b2 => ?_) (fun b2 => ?_)
    · refine xT.s1 hM rfl rfl ?_
      refine xT.s2 hM rfl rfl (x2_get rfl (Or.inl rfl) hq p0) ?_
      refine xT.s2 hM rfl rfl (x2_get rfl (Or.inl rfl) ht t5) ?_
      refine xT.s2 hM rfl rfl (x2_get rfl (Or.inl rfl) w0 w2) ?_
      refine xT.s1 hM rfl rfl ?_
      refine xT.s1 hM rfl rfl ?_
      refine xT.br (fun b24 => ?_) (fun b24 => ?_)
      · refine xT.s1 hM rfl rfl ?_
        refine xT.s1 hM rfl rfl ?_
        refine xT.ca hM rfl rfl rfl rfl rfl rfl (xc_virt rfl rfl rfl hq ⟨rfl, Nat.le_of_ble_eq_true rfl, rfl, Or.inl rfl⟩) rfl ⟨Nat.le_of_ble_eq_true rfl, Nat.le_of_ble_eq_true rfl, by decide⟩ rfl (c_choice hE hV hr HV hN ho b2 b24) (fun v h3 hv => ?_) (fun ce xq h3 he => he)
        obtain ⟨rfl, hv⟩ := hv
        refine xT.s1 hM rfl rfl ?_
        exact xT.ret hM rfl rfl rfl rfl (⟨rfl, hv⟩)
      · refine xT.s1 hM rfl rfl ?_
        refine xT.s1 hM rfl rfl ?_
        refine xT.s1 hM rfl rfl ?_
        refine xT.br (fun b3 => ?_) (fun b3 => ?_)
        · refine xT.s1 hM rfl rfl ?_
          refine xT.ca hM rfl rfl rfl rfl rfl rfl (xc_virt rfl rfl rfl hq ⟨rfl, Nat.le_of_ble_eq_true rfl, rfl, Or.inl rfl⟩) rfl ⟨Nat.le_of_ble_eq_true rfl, Nat.le_of_ble_eq_true rfl, by decide⟩ rfl (c_negative hE hV hr (by rw [b3]; decide)) (fun v h3 hv => ?_) (fun ce xq h3 he => he)
          obtain ⟨rfl, hv⟩ := hv
          refine xT.s1 hM rfl rfl ?_
          exact xT.ret hM rfl rfl rfl rfl (⟨rfl, hv⟩)
        · refine xT.s1 hM rfl rfl ?_
          refine xT.go hM rfl rfl rfl rfl rfl rfl (xc_stat rfl rfl ⟨rfl, Nat.le_of_ble_eq_true rfl⟩) rfl ⟨Nat.le_of_ble_eq_true rfl, Nat.le_of_ble_eq_true rfl, by decide⟩ (c_begins) (fun v h3 hv => ?_)
          obtain ⟨⟨y, rfl, hy⟩, hh3⟩ := hv
          subst h3
          refine xT.s1 hM rfl rfl ?_
          refine xT.br (fun b4 => ?_) (fun b4 => ?_)
          · refine xT.s1 hM rfl rfl ?_
            refine xT.ca hM rfl rfl rfl rfl rfl rfl (xc_virt rfl rfl rfl hq ⟨rfl, Nat.le_of_ble_eq_true rfl, rfl, Or.inl rfl⟩) rfl ⟨Nat.le_of_ble_eq_true rfl, Nat.le_of_ble_eq_true rfl, by decide⟩ rfl (c_refuse hV.1 x2 (by omega) (by omega)) (fun v h3 hv => ?_) (fun ce xq h3 he => he.ve)
            exact hv.elim
          · have hk := hy b4
            refine xT.s1 hM rfl rfl ?_
            refine xT.s1 hM rfl rfl ?_
            refine xT.go hM rfl rfl rfl rfl rfl rfl (xc_virt rfl rfl rfl hq ⟨rfl, Nat.le_of_ble_eq_true rfl, rfl, Or.inl rfl⟩) rfl ⟨Nat.le_of_ble_eq_true rfl, Nat.le_of_ble_eq_true rfl, by decide⟩ (c_addV hV hr) (fun v h1 hv => ?_)
            obtain ⟨nb, rfl, ⟨Gnb, hnb⟩, qeh1, caph1, hVh1, fh1, th1, lh1, mah1, mbh1, mch1, mdh1⟩ := hv
            obtain ⟨⟨F0, hq, lq, p0, p1, ⟨zp, p2⟩⟩, ⟨Ft, gl, kp, hT⟩, hH, hA, hht, ⟨Fa, ef, hL⟩, hY⟩ := id hVh1.1
            obtain ⟨ht, lt, t0, t1, t2, t3, t4, t5, hb8, hl8, k4, l4, hne⟩ := id hT
            obtain ⟨Fh, u0, u1, u2, u3, u5, ⟨x3, u6⟩, ⟨x4, u7⟩, ⟨x5, u8⟩⟩ := id hH
            obtain ⟨Fx, w0, w1, w2, w3, w5, ⟨y3, w6⟩, ⟨y4, w7⟩, ⟨y5, w8⟩⟩ := id hA
            have ha := hL.1
            refine xT.s1 hM rfl rfl ?_
            refine xT.s1 hM rfl rfl ?_
            refine xT.s2 hM rfl rfl (x2_get rfl (Or.inl rfl) hq p0) ?_
            refine xT.go hM rfl rfl rfl rfl rfl rfl (xc_virt rfl rfl rfl ht ⟨rfl, Nat.le_of_ble_eq_true rfl, rfl, Or.inl rfl⟩) rfl ⟨Nat.le_of_ble_eq_true rfl, Nat.le_of_ble_eq_true rfl, by decide⟩ (c_advV hE hVh1) (fun v h2 hv => ?_)
            obtain ⟨rfl, kdh2, bbh2, enh2, hVh2, prh2, fh2, th2, lh2, zh2⟩ := hv
            have p1 := prh2 hk.1 hk.2
            have R2 : c_R h qb ql cap sz bh h2 caph1 (sz + 1) ba := c_R.aa fh1 th1 lh1 mah1 mbh1 mch1 mdh1 p1 fh2 th2 lh2 zh2
            refine xT.s1 hM rfl rfl ?_
            exact xT.ret hM rfl rfl rfl rfl (⟨rfl, _, _, _, _, _, _, _, _, _, _, _, hVh2, R2, p1⟩)
    · refine xT.s1 hM rfl rfl ?_
      refine xT.s1 hM rfl rfl ?_
      refine xT.s1 hM rfl rfl ?_
      refine xT.br (fun b3 => ?_) (fun b3 => ?_)
      · refine xT.s1 hM rfl rfl ?_
        refine xT.ca hM rfl rfl rfl rfl rfl rfl (xc_virt rfl rfl rfl hq ⟨rfl, Nat.le_of_ble_eq_true rfl, rfl, Or.inl rfl⟩) rfl ⟨Nat.le_of_ble_eq_true rfl, Nat.le_of_ble_eq_true rfl, by decide⟩ rfl (c_negative hE hV hr (by rw [b3]; decide)) (fun v h3 hv => ?_) (fun ce xq h3 he => he)
        obtain ⟨rfl, hv⟩ := hv
        refine xT.s1 hM rfl rfl ?_
        exact xT.ret hM rfl rfl rfl rfl (⟨rfl, hv⟩)
      · refine xT.s1 hM rfl rfl ?_
        refine xT.go hM rfl rfl rfl rfl rfl rfl (xc_stat rfl rfl ⟨rfl, Nat.le_of_ble_eq_true rfl⟩) rfl ⟨Nat.le_of_ble_eq_true rfl, Nat.le_of_ble_eq_true rfl, by decide⟩ (c_begins) (fun v h3 hv => ?_)
        obtain ⟨⟨y, rfl, hy⟩, hh3⟩ := hv
        subst h3
        refine xT.s1 hM rfl rfl ?_
        refine xT.br (fun b4 => ?_) (fun b4 => ?_)
        · refine xT.s1 hM rfl rfl ?_
          refine xT.ca hM rfl rfl rfl rfl rfl rfl (xc_virt rfl rfl rfl hq ⟨rfl, Nat.le_of_ble_eq_true rfl, rfl, Or.inl rfl⟩) rfl ⟨Nat.le_of_ble_eq_true rfl, Nat.le_of_ble_eq_true rfl, by decide⟩ rfl (c_refuse hV.1 x2 (by omega) (by omega)) (fun v h3 hv => ?_) (fun ce xq h3 he => he.ve)
          exact hv.elim
        · have hk := hy b4
          refine xT.s1 hM rfl rfl ?_
          refine xT.s1 hM rfl rfl ?_
          refine xT.go hM rfl rfl rfl rfl rfl rfl (xc_virt rfl rfl rfl hq ⟨rfl, Nat.le_of_ble_eq_true rfl, rfl, Or.inl rfl⟩) rfl ⟨Nat.le_of_ble_eq_true rfl, Nat.le_of_ble_eq_true rfl, by decide⟩ (c_addV hV hr) (fun v h1 hv => ?_)
          obtain ⟨nb, rfl, ⟨Gnb, hnb⟩, qeh1, caph1, hVh1, fh1, th1, lh1, mah1, mbh1, mch1, mdh1⟩ := hv
          obtain ⟨⟨F0, hq, lq, p0, p1, ⟨zp, p2⟩⟩, ⟨Ft, gl, kp, hT⟩, hH, hA, hht, ⟨Fa, ef, hL⟩, hY⟩ := id hVh1.1
          obtain ⟨ht, lt, t0, t1, t2, t3, t4, t5, hb8, hl8, k4, l4, hne⟩ := id hT
          obtain ⟨Fh, u0, u1, u2, u3, u5, ⟨x3, u6⟩, ⟨x4, u7⟩, ⟨x5, u8⟩⟩ := id hH
          obtain ⟨Fx, w0, w1, w2, w3, w5, ⟨y3, w6⟩, ⟨y4, w7⟩, ⟨y5, w8⟩⟩ := id hA
          have ha := hL.1
          refine xT.s1 hM rfl rfl ?_
          refine xT.s1 hM rfl rfl ?_
          refine xT.s2 hM rfl rfl (x2_get rfl (Or.inl rfl) hq p0) ?_
          refine xT.go hM rfl rfl rfl rfl rfl rfl (xc_virt rfl rfl rfl ht ⟨rfl, Nat.le_of_ble_eq_true rfl, rfl, Or.inl rfl⟩) rfl ⟨Nat.le_of_ble_eq_true rfl, Nat.le_of_ble_eq_true rfl, by decide⟩ (c_advV hE hVh1) (fun v h2 hv => ?_)
          obtain ⟨rfl, kdh2, bbh2, enh2, hVh2, prh2, fh2, th2, lh2, zh2⟩ := hv
          have p1 := prh2 hk.1 hk.2
          have R2 : c_R h qb ql cap sz bh h2 caph1 (sz + 1) ba := c_R.aa fh1 th1 lh1 mah1 mbh1 mch1 mdh1 p1 fh2 th2 lh2 zh2
          refine xT.s1 hM rfl rfl ?_
          exact xT.ret hM rfl rfl rfl rfl (⟨rfl, _, _, _, _, _, _, _, _, _, _, _, hVh2, R2, p1⟩)
theorem c_value (hE : e.1 = .null ∨ ∃ w, e.1 = .float w) : ∀ N, c_VC e q0 qt qb ql qa gb len N := by
  intro N
  induction N with
  | zero => intro d o th ta qe cap sz kh bh eh ka ba ea h _ _ _ hN; exact absurd hN (Nat.not_lt_zero _)
  | succ N ih => exact c_valueS hE ih
theorem c_S.kp {Ft Ft' : List Value} (hS : c_S h q0 qt qb ql th ta qa qe gb len cap sz kh bh eh ka ba ea) (ht0 : h[qt]? = some (.inr (1, Ft))) (u : x_up h qt h' (.inr (1, Ft'))) (hl : Ft'.length = Ft.length) (fb : Ft'[2]? = some (.int (nI 0))) (fo : ∀ i, i ≠ 2 → Ft'[i]? = Ft[i]?) : c_S h' q0 qt qb ql th ta qa qe gb len cap sz kh bh eh ka ba ea ∧ c_fr h h' qb ql ∧ c_10 h h' := by
  obtain ⟨⟨F0, hq, r0⟩, ⟨Fx, gl, kp, ht, lt, t0, t1, t2, t3, t4, t5, hb8, hl8, k4, l4, hne⟩, hH, hA, hht, ⟨Fa, ef, ha, la, f1, f2, hd, hs, hc, hN⟩, hY⟩ := hS
  have eF : Fx = Ft := by rw [ht0] at ht; cases ht; rfl
  subst eF
  have ko : ∀ (k ci : Nat) (F : List Value), h[k]? = some (.inr (ci, F)) → ci ≠ 1 → h'[k]? = some (.inr (ci, F)) := fun k ci F hk hc => (u.2.1 k (x_neq hk ht0 (by simp; omega))).trans hk
  have kr : ∀ (k t n : Nat) (f : Nat → Value), h[k]? = some (.inl (t, n, f)) → h'[k]? = some (.inl (t, n, f)) := fun k t n f hk => (u.2.1 k (x_neq hk ht0 (by simp))).trans hk
  have k10 : c_10 h h' := fun k F hk => ⟨F, ko _ _ _ hk (by decide)⟩
  refine ⟨⟨⟨F0, ko _ _ _ hq (by decide), r0⟩, ⟨Ft', gl, 0, u.1, hl.trans lt, (fo 0 (by decide)).trans t0, (fo 1 (by decide)).trans t1, fb, (fo 3 (by decide)).trans t3, (fo 4 (by decide)).trans t4, (fo 5 (by decide)).trans t5, kr _ _ _ _ hb8, kr _ _ _ _ hl8, by omega, l4, hne⟩, hH.kept (fun F hk => ko _ _ _ hk (by decide)), hA.kept (fun F hk => ko _ _ _ hk (by decide)), hht, ⟨Fa, ef, ko _ _ _ ha (by decide), la, f1, f2, ?_, hs, hc, fun i hi => (hN i hi).kept k10⟩, fun k F hk => hY k F (x_rev_up u (by simp) hk)⟩, fun k x hk n1 n2 n3 n4 => ?_, k10⟩
  · rcases hd with z | ⟨z1, z2, z3⟩
    · exact Or.inl z
    · exact Or.inr ⟨z1, kr _ _ _ _ z2, z3⟩
  · exact (u.2.1 k (fun z => by subst z; rw [ht0] at hk; exact absurd rfl (n3 1 Fx (Option.some.inj hk).symm).2.1)).trans hk
theorem c_S.tok {x : Nat} {Fk Fk' : List Value} (hS : c_S h q0 qt qb ql th ta qa qe gb len cap sz kh bh eh ka ba ea) (hk0 : h[ta]? = some (.inr (2, Fk))) (u : x_up h ta h' (.inr (2, Fk'))) (hl : Fk'.length = Fk.length) (fb : Fk'[2]? = some (.int (nI x))) (fo : ∀ i, i ≠ 2 → Fk'[i]? = Fk[i]?) : c_S h' q0 qt qb ql th ta qa qe gb len cap sz kh bh eh ka ba x ∧ c_fr h h' qb ql ∧ c_10 h h' := by
  obtain ⟨⟨F0, hq, r0⟩, ⟨Ft, gl, kp, ht, lt, t0, t1, t2, t3, t4, t5, hb8, hl8, r1⟩, hH, hA, hht, ⟨Fa, ef, ha, la, f1, f2, hd, hs, hc, hN⟩, hY⟩ := hS
  have ko : ∀ (k ci : Nat) (F : List Value), h[k]? = some (.inr (ci, F)) → ci ≠ 2 → h'[k]? = some (.inr (ci, F)) := fun k ci F hk hc => (u.2.1 k (x_neq hk hk0 (by simp; omega))).trans hk
  have kr : ∀ (k t n : Nat) (f : Nat → Value), h[k]? = some (.inl (t, n, f)) → h'[k]? = some (.inl (t, n, f)) := fun k t n f hk => (u.2.1 k (x_neq hk hk0 (by simp))).trans hk
  have k10 : c_10 h h' := fun k F hk => ⟨F, ko _ _ _ hk (by decide)⟩
  obtain ⟨Fx, w0, w1, w2, w3, w5, w6, w7, w8⟩ := hA
  have eF : Fx = Fk := by rw [hk0] at w0; cases w0; rfl
  subst eF
  refine ⟨⟨⟨F0, ko _ _ _ hq (by decide), r0⟩, ⟨Ft, gl, kp, ko _ _ _ ht (by decide), lt, t0, t1, t2, t3, t4, t5, kr _ _ _ _ hb8, kr _ _ _ _ hl8, r1⟩, hH.kept (fun F hk => (u.2.1 _ hht).trans hk), ⟨Fk', u.1, hl.trans w1, (fo 0 (by decide)).trans w2, (fo 1 (by decide)).trans w3, fb, w6.imp (fun _ z => (fo 3 (by decide)).trans z), w7.imp (fun _ z => (fo 4 (by decide)).trans z), w8.imp (fun _ z => (fo 5 (by decide)).trans z)⟩, hht, ⟨Fa, ef, ko _ _ _ ha (by decide), la, f1, f2, ?_, hs, hc, fun i hi => (hN i hi).kept k10⟩, fun k F hk => hY k F (x_rev_up u (by simp) hk)⟩, fun k x hk n1 n2 n3 n4 => ?_, k10⟩
  · rcases hd with z | ⟨z1, z2, z3⟩
    · exact Or.inl z
    · exact Or.inr ⟨z1, kr _ _ _ _ z2, z3⟩
  · exact (u.2.1 k (fun z => by subst z; rw [hk0] at hk; exact absurd rfl (n3 2 Fx (Option.some.inj hk).symm).2.2.1)).trans hk
theorem c_start (hE : e.1 = .null ∨ ∃ w, e.1 = .float w) (hS : c_S h q0 qt qb ql th ta qa qe gb len cap sz kh bh eh ka ba ea) : xT e (d + 8) 125 0 [(0, .ref qt)] [] h (fun o h' => ∃ v, o = .inl v ∧ v = none ∧ ∃ (kh' : Int32) (bh' eh' : Nat) (ka' : Int32) (ba' ea' : Nat), c_V h' q0 qt qb ql th ta qa qe gb len cap sz kh' bh' eh' ka' ba' ea' ∧ c_fr h h' qb ql ∧ c_10 h h' ∧ h'.length = h.length ∧ ab_sz h' = ab_sz h) := by
  have hM : (x_mt e.1)[125]? = some xM125 := rfl
  obtain ⟨⟨F0, hq, lq, p0, p1, ⟨zp, p2⟩⟩, ⟨Ft, gl, kp, hT⟩, hH, hA, hht, ⟨Fa, ef, hL⟩, hY⟩ := id hS
  obtain ⟨ht, lt, t0, t1, t2, t3, t4, t5, hb8, hl8, k4, l4, hne⟩ := id hT
  obtain ⟨Fh, u0, u1, u2, u3, u5, ⟨x3, u6⟩, ⟨x4, u7⟩, ⟨x5, u8⟩⟩ := id hH
  obtain ⟨Fx, w0, w1, w2, w3, w5, ⟨y3, w6⟩, ⟨y4, w7⟩, ⟨y5, w8⟩⟩ := id hA
  have ha := hL.1
  refine xT.s1 hM rfl rfl ?_
  refine xT.s1 hM rfl rfl ?_
  refine xT.put hM rfl rfl ht (Or.inl rfl) (by rw [lt]; decide) (rfl) (Or.inl rfl) (fun h1 F1 eF eh1 up1 fb fo fl => ?_)
  obtain ⟨hS1, fa1, tb1⟩ := hS.kp ht up1 fl fb fo
  replace hS := hS1
  obtain ⟨⟨F0, hq, lq, p0, p1, ⟨zp, p2⟩⟩, ⟨Ft, gl, kp, hT⟩, hH, hA, hht, ⟨Fa, ef, hL⟩, hY⟩ := id hS
  obtain ⟨ht, lt, t0, t1, t2, t3, t4, t5, hb8, hl8, k4, l4, hne⟩ := id hT
  obtain ⟨Fh, u0, u1, u2, u3, u5, ⟨x3, u6⟩, ⟨x4, u7⟩, ⟨x5, u8⟩⟩ := id hH
  obtain ⟨Fx, w0, w1, w2, w3, w5, ⟨y3, w6⟩, ⟨y4, w7⟩, ⟨y5, w8⟩⟩ := id hA
  have ha := hL.1
  refine xT.s1 hM rfl rfl ?_
  refine xT.s2 hM rfl rfl (x2_get rfl (Or.inl rfl) ht t5) ?_
  refine xT.s1 hM rfl rfl ?_
  refine xT.put hM rfl rfl w0 (Or.inl rfl) (by rw [w1]; decide) (rfl) (Or.inl rfl) (fun h2 F2 eF eh2 up2 fb fo fl => ?_)
  obtain ⟨hS2, fa2, tb2⟩ := hS.tok (x := 0) w0 up2 fl fb fo
  replace hS := hS2
  obtain ⟨⟨F0, hq, lq, p0, p1, ⟨zp, p2⟩⟩, ⟨Ft, gl, kp, hT⟩, hH, hA, hht, ⟨Fa, ef, hL⟩, hY⟩ := id hS
  obtain ⟨ht, lt, t0, t1, t2, t3, t4, t5, hb8, hl8, k4, l4, hne⟩ := id hT
  obtain ⟨Fh, u0, u1, u2, u3, u5, ⟨x3, u6⟩, ⟨x4, u7⟩, ⟨x5, u8⟩⟩ := id hH
  obtain ⟨Fx, w0, w1, w2, w3, w5, ⟨y3, w6⟩, ⟨y4, w7⟩, ⟨y5, w8⟩⟩ := id hA
  have ha := hL.1
  refine xT.s1 hM rfl rfl ?_
  refine xT.go hM rfl rfl rfl rfl rfl rfl (xc_virt rfl rfl rfl ht ⟨rfl, Nat.le_of_ble_eq_true rfl, rfl, Or.inl rfl⟩) rfl ⟨Nat.le_of_ble_eq_true rfl, Nat.le_of_ble_eq_true rfl, by decide⟩ (c_advS hE hS (Nat.zero_le _)) (fun v h3 hv => ?_)
  obtain ⟨rfl, kd3, bb3, en3, hS3, o3, l3, m3, fa3, tb3, ln3, sn3⟩ := hv
  replace hS := hS3
  obtain ⟨⟨F0, hq, lq, p0, p1, ⟨zp, p2⟩⟩, ⟨Ft, gl, kp, hT⟩, hH, hA, hht, ⟨Fa, ef, hL⟩, hY⟩ := id hS
  obtain ⟨ht, lt, t0, t1, t2, t3, t4, t5, hb8, hl8, k4, l4, hne⟩ := id hT
  obtain ⟨Fh, u0, u1, u2, u3, u5, ⟨x3, u6⟩, ⟨x4, u7⟩, ⟨x5, u8⟩⟩ := id hH
  obtain ⟨Fx, w0, w1, w2, w3, w5, ⟨y3, w6⟩, ⟨y4, w7⟩, ⟨y5, w8⟩⟩ := id hA
  have ha := hL.1
  refine xT.s1 hM rfl rfl ?_
  refine xT.go hM rfl rfl rfl rfl rfl rfl (xc_virt rfl rfl rfl ht ⟨rfl, Nat.le_of_ble_eq_true rfl, rfl, Or.inl rfl⟩) rfl ⟨Nat.le_of_ble_eq_true rfl, Nat.le_of_ble_eq_true rfl, by decide⟩ (c_advS hE hS o3.le) (fun v h4 hv => ?_)
  obtain ⟨rfl, kd4, bb4, en4, hS4, o4, l4, m4, fa4, tb4, ln4, sn4⟩ := hv
  exact xT.ret hM rfl rfl rfl rfl (⟨_, rfl, rfl, _, _, _, _, _, _, ⟨hS4, o3, o4, l4, m3, m4⟩, ((fa1.tr fa2).tr fa3).tr fa4, ((tb1.tr tb2).tr tb3).tr tb4, by rw [ln4, ln3, up2.2.2.1, up1.2.2.1], by rw [sn4, sn3, up2.2.2.2, up1.2.2.2]⟩)
theorem c_read (hE : e.1 = .null ∨ ∃ w, e.1 = .float w) (hS : c_S h q0 qt qb ql th ta qa qe gb len cap sz kh bh eh ka ba ea) (hcap : cap ≤ 17010) (r1 : 5 * h.length + 5 * len + (17010 - cap) + 100 ≤ 5 * e.2.2.2.1) (r2 : ab_sz h + 7 * len + 4 * (17010 - cap) + 20200 ≤ e.2.2.2.2.1) : xT e (d + 200) 96 0 [(0, .ref q0)] [] h (x_Q (fun v h' => (∃ z : Int32, v = some (.int z)) ∧ ∃ (th' ta' qe' cap' sz' : Nat) (kh' : Int32) (bh' eh' : Nat) (ka' : Int32) (ba' ea' : Nat), c_S h' q0 qt qb ql th' ta' qa qe' gb 0 cap' sz' kh' bh' eh' ka' ba' ea' ∧ cap ≤ cap' ∧ cap' ≤ 17010 ∧ sz' ≤ 8000 ∧ 5 * h'.length + cap ≤ 5 * h.length + (5 * len + 5) + cap' ∧ ab_sz h' + 4 * cap ≤ ab_sz h + (7 * len + 6) + 4 * cap' ∧ c_fr h h' qb ql ∧ h.length ≤ h'.length) (fun ce xq h' => c_EX h q0 qt qb ql qa gb cap (5 * len + 5) (7 * len + 6) ce xq h')) := by
  have hM : (x_mt e.1)[96]? = some xM96 := rfl
  obtain ⟨⟨F0, hq, lq, p0, p1, ⟨zp, p2⟩⟩, ⟨Ft, gl, kp, hT⟩, hH, hA, hht, ⟨Fa, ef, hL⟩, hY⟩ := id hS
  obtain ⟨ht, lt, t0, t1, t2, t3, t4, t5, hb8, hl8, k4, l4, hne⟩ := id hT
  obtain ⟨Fh, u0, u1, u2, u3, u5, ⟨x3, u6⟩, ⟨x4, u7⟩, ⟨x5, u8⟩⟩ := id hH
  obtain ⟨Fx, w0, w1, w2, w3, w5, ⟨y3, w6⟩, ⟨y4, w7⟩, ⟨y5, w8⟩⟩ := id hA
  have ha := hL.1
  refine xT.s1 hM rfl rfl ?_
  refine xT.s2 hM rfl rfl (x2_get rfl (Or.inl rfl) hq p1) ?_
  refine xT.go hM rfl rfl rfl rfl rfl rfl (xc_virt rfl rfl rfl ha ⟨rfl, Nat.le_of_ble_eq_true rfl, rfl, Or.inl rfl⟩) rfl ⟨Nat.le_of_ble_eq_true rfl, Nat.le_of_ble_eq_true rfl, by decide⟩ (c_clear hL) (fun v h1 hv => ?_)
  obtain ⟨rfl, Fa1, ef1, y1, y2, ln1, sn1, y5⟩ := hv
  obtain ⟨hS1, fa1, tb1⟩ := hS.lst y1 y2 y5
  replace hS := hS1
  obtain ⟨⟨F0, hq, lq, p0, p1, ⟨zp, p2⟩⟩, ⟨Ft, gl, kp, hT⟩, hH, hA, hht, ⟨Fa, ef, hL⟩, hY⟩ := id hS
  obtain ⟨ht, lt, t0, t1, t2, t3, t4, t5, hb8, hl8, k4, l4, hne⟩ := id hT
  obtain ⟨Fh, u0, u1, u2, u3, u5, ⟨x3, u6⟩, ⟨x4, u7⟩, ⟨x5, u8⟩⟩ := id hH
  obtain ⟨Fx, w0, w1, w2, w3, w5, ⟨y3, w6⟩, ⟨y4, w7⟩, ⟨y5, w8⟩⟩ := id hA
  have ha := hL.1
  refine xT.s1 hM rfl rfl ?_
  refine xT.s2 hM rfl rfl (x2_get rfl (Or.inl rfl) hq p0) ?_
  refine xT.go hM rfl rfl rfl rfl rfl rfl (xc_virt rfl rfl rfl ht ⟨rfl, Nat.le_of_ble_eq_true rfl, rfl, Or.inl rfl⟩) rfl ⟨Nat.le_of_ble_eq_true rfl, Nat.le_of_ble_eq_true rfl, by decide⟩ (c_start hE hS) (fun v h2 hv => ?_)
  obtain ⟨rfl, kh2, bh2, eh2, ka2, ba2, ea2, hV2, fa2, tb2, ln2, sn2⟩ := hv
  obtain ⟨bl2, bl2b⟩ := hV2.bl
  have hl4 := hT.2.2.2.2.2.2.2.2.2.2.2.1
  have rm2 : c_rm e h2 len cap 0 bh2 := ⟨by omega, hcap, by omega, by omega⟩
  obtain ⟨⟨F0, hq, lq, p0, p1, ⟨zp, p2⟩⟩, ⟨Ft, gl, kp, hT⟩, hH, hA, hht, ⟨Fa, ef, hL⟩, hY⟩ := id hV2.1
  obtain ⟨ht, lt, t0, t1, t2, t3, t4, t5, hb8, hl8, k4, l4, hne⟩ := id hT
  obtain ⟨Fh, u0, u1, u2, u3, u5, ⟨x3, u6⟩, ⟨x4, u7⟩, ⟨x5, u8⟩⟩ := id hH
  obtain ⟨Fx, w0, w1, w2, w3, w5, ⟨y3, w6⟩, ⟨y4, w7⟩, ⟨y5, w8⟩⟩ := id hA
  have ha := hL.1
  refine xT.s1 hM rfl rfl ?_
  refine xT.s1 hM rfl rfl ?_
  have hval := c_value (q0 := q0) (qt := qt) (qb := qb) (ql := ql) (qa := qa) (gb := gb) (len := len) hE (len + 1) (d + 65) 0 _ _ _ _ _ _ _ _ _ _ _ h2 hV2 rm2 (by omega) (by omega)
  rw [show d + 65 + 2 * (60 - 0) + 14 = d + 199 from by omega] at hval
  refine xT.ca hM rfl rfl rfl rfl rfl rfl (xc_virt rfl rfl rfl hq ⟨rfl, Nat.le_of_ble_eq_true rfl, rfl, Or.inl rfl⟩) rfl ⟨Nat.le_of_ble_eq_true rfl, Nat.le_of_ble_eq_true rfl, by decide⟩ rfl (hval) (fun v h3 hv => ?_) (fun ce xq h3 he => he.pre (fa1.tr fa2) (Nat.le_refl _) (by omega) (by omega) (by omega))
  obtain ⟨rfl, th3, ta3, qe3, cap3, sz3, kh3, bh3, eh3, ka3, ba3, ea3, hV3, R3, p3⟩ := hv
  obtain ⟨x1, x2, x3x, x4x⟩ := R3.rm rm2 hV3.bl.1
  obtain ⟨bl3, bl3b⟩ := hV3.bl
  obtain ⟨a1, a2, a3, a4, a5, a6, a7, a8, a9⟩ := id R3
  obtain ⟨⟨F0, hq, lq, p0, p1, ⟨zp, p2⟩⟩, ⟨Ft, gl, kp, hT⟩, hH, hA, hht, ⟨Fa, ef, hL⟩, hY⟩ := id hV3.1
  obtain ⟨ht, lt, t0, t1, t2, t3, t4, t5, hb8, hl8, k4, l4, hne⟩ := id hT
  obtain ⟨Fh, u0, u1, u2, u3, u5, ⟨x3, u6⟩, ⟨x4, u7⟩, ⟨x5, u8⟩⟩ := id hH
  obtain ⟨Fx, w0, w1, w2, w3, w5, ⟨y3, w6⟩, ⟨y4, w7⟩, ⟨y5, w8⟩⟩ := id hA
  have ha := hL.1
  refine xT.s1 hM rfl rfl ?_
  refine xT.s1 hM rfl rfl ?_
  refine xT.ca hM rfl rfl rfl rfl rfl rfl (xc_virt rfl rfl rfl hq ⟨rfl, Nat.le_of_ble_eq_true rfl, rfl, Or.inl rfl⟩) rfl ⟨Nat.le_of_ble_eq_true rfl, Nat.le_of_ble_eq_true rfl, by decide⟩ rfl (c_demand hV3.1 x2 (by omega) (by omega)) (fun v h4 hv => ?_) (fun ce xq h4 he => he.pre ((fa1.tr fa2).tr a1) a4 (by omega) (by omega) (by omega))
  obtain ⟨rfl, hh4, hk4⟩ := hv
  subst h4
  refine xT.s1 hM rfl rfl ?_
  refine xT.s2 hM rfl rfl (x2_get rfl (Or.inl rfl) hq p0) ?_
  refine xT.s1 hM rfl rfl ?_
  have hS := hV3.1
  refine xT.put hM rfl rfl ht (Or.inl rfl) (by rw [lt]; decide) (rfl) (Or.inl rfl) (fun h5 F5 eF eh5 up5 fb fo fl => ?_)
  obtain ⟨hS5, fa5, tb5⟩ := hS.len2 (len2 := 0) ht up5 fl fb fo (by omega)
  replace hS := hS5
  obtain ⟨⟨F0, hq, lq, p0, p1, ⟨zp, p2⟩⟩, ⟨Ft, gl, kp, hT⟩, hH, hA, hht, ⟨Fa, ef, hL⟩, hY⟩ := id hS
  obtain ⟨ht, lt, t0, t1, t2, t3, t4, t5, hb8, hl8, k4, l4, hne⟩ := id hT
  obtain ⟨Fh, u0, u1, u2, u3, u5, ⟨x3, u6⟩, ⟨x4, u7⟩, ⟨x5, u8⟩⟩ := id hH
  obtain ⟨Fx, w0, w1, w2, w3, w5, ⟨y3, w6⟩, ⟨y4, w7⟩, ⟨y5, w8⟩⟩ := id hA
  have ha := hL.1
  refine xT.s1 hM rfl rfl ?_
  refine xT.s1 hM rfl rfl ?_
  refine xT.put hM rfl rfl hq (Or.inl rfl) (by rw [lq]; decide) (rfl) (Or.inl rfl) (fun h6 F6 eF eh6 up6 fb fo fl => ?_)
  obtain ⟨hS6, fa6, tb6⟩ := hS.plc hq up6 fl fb fo
  replace hS := hS6
  obtain ⟨⟨F0, hq, lq, p0, p1, ⟨zp, p2⟩⟩, ⟨Ft, gl, kp, hT⟩, hH, hA, hht, ⟨Fa, ef, hL⟩, hY⟩ := id hS
  obtain ⟨ht, lt, t0, t1, t2, t3, t4, t5, hb8, hl8, k4, l4, hne⟩ := id hT
  obtain ⟨Fh, u0, u1, u2, u3, u5, ⟨x3, u6⟩, ⟨x4, u7⟩, ⟨x5, u8⟩⟩ := id hH
  obtain ⟨Fx, w0, w1, w2, w3, w5, ⟨y3, w6⟩, ⟨y4, w7⟩, ⟨y5, w8⟩⟩ := id hA
  have ha := hL.1
  refine xT.s1 hM rfl rfl ?_
  refine xT.s2 hM rfl rfl (x2_get rfl (Or.inl rfl) hq p1) ?_
  refine xT.go hM rfl rfl rfl rfl rfl rfl (xc_virt rfl rfl rfl ha ⟨rfl, Nat.le_of_ble_eq_true rfl, rfl, Or.inl rfl⟩) rfl ⟨Nat.le_of_ble_eq_true rfl, Nat.le_of_ble_eq_true rfl, by decide⟩ (c_size hL) (fun v h2 hv => ?_)
  obtain ⟨rfl, hh2⟩ := hv
  subst h2
  have l5 := up5.2.2.1
  have l6 := up6.2.2.1
  have z5 := up5.2.2.2
  have z6 := up6.2.2.2
  exact xT.ret hM rfl rfl rfl rfl (⟨⟨_, rfl⟩, _, _, _, _, _, _, _, _, _, _, _, hS, a4, a5, by omega, by omega, by omega, (((fa1.tr fa2).tr a1).tr fa5).tr fa6, by omega⟩)
end XCY
