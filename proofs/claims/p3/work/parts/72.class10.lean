/-! the class: value -/
def c_VC (e : xE) (q0 qt qb ql qa : Nat) (gb : Nat → Int32) (len N : Nat) : Prop := ∀ (d o th ta qe cap sz : Nat) (kh : Int32) (bh eh : Nat) (ka : Int32) (ba ea : Nat) (h : ab_H), c_V h q0 qt qb ql th ta qa qe gb len cap sz kh bh eh ka ba ea → c_rm e h len cap sz bh → o ≤ 60 → len - bh < N → xT e (d + 2 * (60 - o) + 14) 105 0 [(0, .ref q0), (1, .int (nI o))] [] h (x_Q (c_VN h q0 qt qb ql qa gb len cap sz bh) (c_VE h q0 qt qb ql qa gb len cap bh))
section XCX
variable {e : xE} {d q0 qt qb ql th ta qa qe len cap sz bh eh ba ea b o N nw : Nat} {gb : Nat → Int32} {h h' h0 : ab_H} {kh ka : Int32} {G G' : List Value}
theorem c_V.bl (hV : c_V h q0 qt qb ql th ta qa qe gb len cap sz kh bh eh ka ba ea) : bh ≤ len ∧ ba ≤ len := ⟨hV.2.2.2.2.1, hV.2.2.2.2.2⟩
theorem c_nbLoop (hE : e.1 = .null ∨ ∃ w, e.1 = .float w) : ∀ (M : Nat) (i : Int32) (th ta qe cap1 sz1 : Nat) (kh : Int32) (bh1 eh : Nat) (ka : Int32) (ba ea : Nat) (h : ab_H), len - bh1 < M → c_V h q0 qt qb ql th ta qa qe gb len cap1 sz1 kh bh1 eh ka ba ea → c_R h0 qb ql cap sz bh h cap1 sz1 bh1 → c_rm e h len cap1 sz1 bh1 → (∃ G, h[nw]? = some (.inr (10, G))) → xT e (d + 8) 110 2 [(2, .int i), (0, .ref q0), (1, .ref nw)] [] h (fun o h' => ∃ v, o = .inl v ∧ v = none ∧ ∃ (th' ta' qe' cap' sz' : Nat) (kh' : Int32) (bh' eh' : Nat) (ka' : Int32) (ba' ea' : Nat), c_V h' q0 qt qb ql th' ta' qa qe' gb len cap' sz' kh' bh' eh' ka' ba' ea' ∧ c_R h0 qb ql cap sz bh h' cap' sz' bh') := by
  have hM : (x_mt e.1)[110]? = some xM110 := rfl
  intro M
  induction M with
  | zero => intro i th ta qe cap1 sz1 kh bh1 eh ka ba ea h m1; omega
  | succ M ih =>
    intro i th ta qe cap1 sz1 kh bh1 eh ka ba ea h m1 hV hR hr hw
    obtain ⟨⟨F0, hq, lq, p0, p1, ⟨zp, p2⟩⟩, ⟨Ft, gl, kp, hT⟩, hH, hA, hht, ⟨Fa, ef, hL⟩, hY⟩ := id hV.1
    obtain ⟨ht, lt, t0, t1, t2, t3, t4, t5, hb8, hl8, k4, l4, hne⟩ := id hT
    obtain ⟨Fh, u0, u1, u2, u3, u5, ⟨x3, u6⟩, ⟨x4, u7⟩, ⟨x5, u8⟩⟩ := id hH
    obtain ⟨Fx, w0, w1, w2, w3, w5, ⟨y3, w6⟩, ⟨y4, w7⟩, ⟨y5, w8⟩⟩ := id hA
    have ha := hL.1
    obtain ⟨hbl, hba⟩ := hV.bl
    refine xT.s1 hM rfl rfl ?_
    refine xT.s1 hM rfl rfl ?_
    refine xT.s1 hM rfl rfl ?_
    refine xT.br (fun b0 => ?_) (fun b0 => ?_)
    · exact xT.ret hM rfl rfl rfl rfl (⟨_, rfl, rfl, _, _, _, _, _, _, _, _, _, _, _, hV, hR⟩)
    · refine xT.s1 hM rfl rfl ?_
      refine xT.s2 hM rfl rfl (x2_get rfl (Or.inl rfl) hq p0) ?_
      refine xT.s2 hM rfl rfl (x2_get rfl (Or.inl rfl) ht t4) ?_
      refine xT.s2 hM rfl rfl (x2_get rfl (Or.inl rfl) u0 u2) ?_
      refine xT.s1 hM rfl rfl ?_
      refine xT.s1 hM rfl rfl ?_
      refine xT.br (fun b1 => ?_) (fun b1 => ?_)
      · refine xT.s1 hM rfl rfl ?_
        refine xT.s1 hM rfl rfl ?_
        refine xT.go hM rfl rfl rfl rfl rfl rfl (xc_virt rfl rfl rfl hq ⟨rfl, Nat.le_of_ble_eq_true rfl, rfl, Or.inl rfl⟩) rfl ⟨Nat.le_of_ble_eq_true rfl, Nat.le_of_ble_eq_true rfl, by decide⟩ (c_addV hV hr) (fun v h1 hv => ?_)
        obtain ⟨nb, rfl, ⟨Gnb, hnb⟩, qeh1, caph1, hVh1, fh1, th1, lh1, mah1, mbh1, mch1, mdh1⟩ := hv
        obtain ⟨⟨F0, hq, lq, p0, p1, ⟨zp, p2⟩⟩, ⟨Ft, gl, kp, hT⟩, hH, hA, hht, ⟨Fa, ef, hL⟩, hY⟩ := id hVh1.1
        obtain ⟨ht, lt, t0, t1, t2, t3, t4, t5, hb8, hl8, k4, l4, hne⟩ := id hT
        obtain ⟨Fh, u0, u1, u2, u3, u5, ⟨x3, u6⟩, ⟨x4, u7⟩, ⟨x5, u8⟩⟩ := id hH
        obtain ⟨Fx, w0, w1, w2, w3, w5, ⟨y3, w6⟩, ⟨y4, w7⟩, ⟨y5, w8⟩⟩ := id hA
        have ha := hL.1
        refine xT.s1 hM rfl rfl ?_
        refine xT.s1 hM rfl rfl ?_
        refine xT.s2 hM rfl rfl (x2_get rfl (Or.inl rfl) hq p0) ?_
        refine xT.go hM rfl rfl rfl rfl rfl rfl (xc_virt rfl rfl rfl ht ⟨rfl, Nat.le_of_ble_eq_true rfl, rfl, Or.inl rfl⟩) rfl ⟨Nat.le_of_ble_eq_true rfl, Nat.le_of_ble_eq_true rfl, by decide⟩ (c_advV hE hVh1) (fun v h2 hv => ?_)
        obtain ⟨rfl, kdh2, bbh2, enh2, hVh2, prh2, fh2, th2, lh2, zh2⟩ := hv
        have p1 := prh2 (by rw [b1]; decide) (by rw [b1]; decide)
        have R2 : c_R h qb ql cap1 sz1 bh1 h2 caph1 (sz1 + 1) ba := c_R.aa fh1 th1 lh1 mah1 mbh1 mch1 mdh1 p1 fh2 th2 lh2 zh2
        have rm2 := R2.rm hr hba
        obtain ⟨Gw, hw0⟩ := hw
        obtain ⟨Gw2, hw2⟩ := R2.2.1 _ _ hw0
        have hnt := hVh2.nt hw2
        obtain ⟨zz5, g5⟩ := hnt.2.2.2.2.2.2.1
        obtain ⟨⟨F0, hq, lq, p0, p1, ⟨zp, p2⟩⟩, ⟨Ft, gl, kp, hT⟩, hH, hA, hht, ⟨Fa, ef, hL⟩, hY⟩ := id hVh2.1
        obtain ⟨ht, lt, t0, t1, t2, t3, t4, t5, hb8, hl8, k4, l4, hne⟩ := id hT
        obtain ⟨Fh, u0, u1, u2, u3, u5, ⟨x3, u6⟩, ⟨x4, u7⟩, ⟨x5, u8⟩⟩ := id hH
        obtain ⟨Fx, w0, w1, w2, w3, w5, ⟨y3, w6⟩, ⟨y4, w7⟩, ⟨y5, w8⟩⟩ := id hA
        have ha := hL.1
        refine xT.s1 hM rfl rfl ?_
        refine xT.s1 hM rfl rfl ?_
        refine xT.s2 hM rfl rfl (x2_get rfl (Or.inl rfl) hw2 g5) ?_
        refine xT.s1 hM rfl rfl ?_
        refine xT.s1 hM rfl rfl ?_
        refine xT.put hM rfl rfl hw2 (Or.inl rfl) (by rw [hnt.1]; decide) (rfl) (Or.inl rfl) (fun h4 G4 eF eh4 up fb fo fl => ?_)
        obtain ⟨hV4, R4⟩ := hVh2.node up hw2 (hnt.put fl fb fo (Or.inr (Or.inr ⟨rfl, _, rfl⟩))) mdh1
        refine xT.s1 hM rfl rfl ?_
        refine xT.s1 hM rfl rfl ?_
        exact xT.weak (L' := [(2, _), (0, _), (1, _)]) ⟨by simp, by simp⟩ (ih (i + Int32.ofInt 1) _ _ _ _ _ _ _ _ _ _ _ h4 (by omega) hV4 (hR.tr (R2.tr R4)) (R4.rm rm2 hba) ⟨G4, up.1⟩)
      · exact xT.ret hM rfl rfl rfl rfl (⟨_, rfl, rfl, _, _, _, _, _, _, _, _, _, _, _, hV, hR⟩)
theorem c_numbers (hE : e.1 = .null ∨ ∃ w, e.1 = .float w) (hV : c_V h q0 qt qb ql th ta qa qe gb len cap sz kh bh eh ka ba ea) (hr : c_rm e h len cap sz bh) (hw : ∃ G, h[nw]? = some (.inr (10, G))) : xT e (d + 8) 110 0 [(0, .ref q0), (1, .ref nw)] [] h (fun o h' => ∃ v, o = .inl v ∧ v = none ∧ ∃ (th' ta' qe' cap' sz' : Nat) (kh' : Int32) (bh' eh' : Nat) (ka' : Int32) (ba' ea' : Nat), c_V h' q0 qt qb ql th' ta' qa qe' gb len cap' sz' kh' bh' eh' ka' ba' ea' ∧ c_R h qb ql cap sz bh h' cap' sz' bh') := by
  have hM : (x_mt e.1)[110]? = some xM110 := rfl
  refine xT.s1 hM rfl rfl ?_
  refine xT.s1 hM rfl rfl ?_
  exact c_nbLoop hE (len + 1) _ _ _ _ _ _ _ _ _ _ _ _ h (by omega) hV (c_R.rf hr.2.1) hr hw
theorem c_choice (hE : e.1 = .null ∨ ∃ w, e.1 = .float w) (hV : c_V h q0 qt qb ql th ta qa qe gb len cap sz kh bh eh ka ba ea) (hr : c_rm e h len cap sz bh) (HV : c_VC e q0 qt qb ql qa gb len N) (hN : len - bh < N + 1) (ho : o ≤ 60) (hk : kh = 5) (hk2 : ka = 24) : xT e (d + 2 * (60 - o) + 13) 106 0 [(0, .ref q0), (1, .int (nI o))] [] h (x_Q (c_VN h q0 qt qb ql qa gb len cap sz bh) (c_VE h q0 qt qb ql qa gb len cap bh)) := by
  have hM : (x_mt e.1)[106]? = some xM106 := rfl
  obtain ⟨⟨F0, hq, lq, p0, p1, ⟨zp, p2⟩⟩, ⟨Ft, gl, kp, hT⟩, hH, hA, hht, ⟨Fa, ef, hL⟩, hY⟩ := id hV.1
  obtain ⟨ht, lt, t0, t1, t2, t3, t4, t5, hb8, hl8, k4, l4, hne⟩ := id hT
  obtain ⟨Fh, u0, u1, u2, u3, u5, ⟨x3, u6⟩, ⟨x4, u7⟩, ⟨x5, u8⟩⟩ := id hH
  obtain ⟨Fx, w0, w1, w2, w3, w5, ⟨y3, w6⟩, ⟨y4, w7⟩, ⟨y5, w8⟩⟩ := id hA
  have ha := hL.1
  obtain ⟨hbl, hba⟩ := hV.bl
  refine xT.s1 hM rfl rfl ?_
  refine xT.s1 hM rfl rfl ?_
  refine xT.go hM rfl rfl rfl rfl rfl rfl (xc_virt rfl rfl rfl hq ⟨rfl, Nat.le_of_ble_eq_true rfl, rfl, Or.inl rfl⟩) rfl ⟨Nat.le_of_ble_eq_true rfl, Nat.le_of_ble_eq_true rfl, by decide⟩ (c_addV hV hr) (fun v h1 hv => ?_)
  obtain ⟨nb, rfl, ⟨Gnb, hnb⟩, qeh1, caph1, hVh1, fh1, th1, lh1, mah1, mbh1, mch1, mdh1⟩ := hv
  obtain ⟨⟨F0, hq, lq, p0, p1, ⟨zp, p2⟩⟩, ⟨Ft, gl, kp, hT⟩, hH, hA, hht, ⟨Fa, ef, hL⟩, hY⟩ := id hVh1.1
  obtain ⟨ht, lt, t0, t1, t2, t3, t4, t5, hb8, hl8, k4, l4, hne⟩ := id hT
  obtain ⟨Fh, u0, u1, u2, u3, u5, ⟨x3, u6⟩, ⟨x4, u7⟩, ⟨x5, u8⟩⟩ := id hH
  obtain ⟨Fx, w0, w1, w2, w3, w5, ⟨y3, w6⟩, ⟨y4, w7⟩, ⟨y5, w8⟩⟩ := id hA
  have ha := hL.1
  refine xT.s1 hM rfl rfl ?_
  refine xT.s1 hM rfl rfl ?_
  refine xT.s2 hM rfl rfl (x2_get rfl (Or.inl rfl) hq p0) ?_
  refine xT.go hM rfl rfl rfl rfl rfl rfl (xc_virt rfl rfl rfl ht ⟨rfl, Nat.le_of_ble_eq_true rfl, rfl, Or.inl rfl⟩) rfl ⟨Nat.le_of_ble_eq_true rfl, Nat.le_of_ble_eq_true rfl, by decide⟩ (c_advV hE hVh1) (fun v h2 hv => ?_)
  obtain ⟨rfl, kdh2, bbh2, enh2, hVh2, prh2, fh2, th2, lh2, zh2⟩ := hv
  have p1 := prh2 (by rw [hk]; decide) (by rw [hk]; decide)
  have R2 : c_R h qb ql cap sz bh h2 caph1 (sz + 1) ba := c_R.aa fh1 th1 lh1 mah1 mbh1 mch1 mdh1 p1 fh2 th2 lh2 zh2
  have rm2 := R2.rm hr hba
  obtain ⟨x1, x2, x3x, x4x⟩ := id rm2
  obtain ⟨⟨F0, hq, lq, p0, p1, ⟨zp, p2⟩⟩, ⟨Ft, gl, kp, hT⟩, hH, hA, hht, ⟨Fa, ef, hL⟩, hY⟩ := id hVh2.1
  obtain ⟨ht, lt, t0, t1, t2, t3, t4, t5, hb8, hl8, k4, l4, hne⟩ := id hT
  obtain ⟨Fh, u0, u1, u2, u3, u5, ⟨x3, u6⟩, ⟨x4, u7⟩, ⟨x5, u8⟩⟩ := id hH
  obtain ⟨Fx, w0, w1, w2, w3, w5, ⟨y3, w6⟩, ⟨y4, w7⟩, ⟨y5, w8⟩⟩ := id hA
  have ha := hL.1
  obtain ⟨hbl2, hba2⟩ := hVh2.bl
  refine xT.s1 hM rfl rfl ?_
  refine xT.s1 hM rfl rfl ?_
  refine xT.s1 hM rfl rfl ?_
  refine xT.br (fun b0 => ?_) (fun b0 => ?_)
  · have ho1 : o < 60 := (nI_ltI (b := 60) (by omega) (by omega)).mp b0
    refine xT.s1 hM rfl rfl ?_
    refine xT.s2 hM rfl rfl (x2_get rfl (Or.inl rfl) hq p0) ?_
    refine xT.go hM rfl rfl rfl rfl rfl rfl (xc_virt rfl rfl rfl ht ⟨rfl, Nat.le_of_ble_eq_true rfl, rfl, Or.inl rfl⟩) rfl ⟨Nat.le_of_ble_eq_true rfl, Nat.le_of_ble_eq_true rfl, by decide⟩ (c_advV hE hVh2) (fun v h3 hv => ?_)
    obtain ⟨rfl, kdh3, bbh3, enh3, hVh3, prh3, fh3, th3, lh3, zh3⟩ := hv
    have p3 := prh3 (by rw [hk2]; decide) (by rw [hk2]; decide)
    have R3 : c_R h2 qb ql caph1 (sz + 1) ba h3 caph1 (sz + 1) bbh2 := ⟨fh3, th3, by omega, Nat.le_refl _, x2, by omega, by omega, by omega, by omega⟩
    have R03 := R2.tr R3
    have rm3 := R03.rm hr hba2
    obtain ⟨⟨F0, hq, lq, p0, p1, ⟨zp, p2⟩⟩, ⟨Ft, gl, kp, hT⟩, hH, hA, hht, ⟨Fa, ef, hL⟩, hY⟩ := id hVh3.1
    obtain ⟨ht, lt, t0, t1, t2, t3, t4, t5, hb8, hl8, k4, l4, hne⟩ := id hT
    obtain ⟨Fh, u0, u1, u2, u3, u5, ⟨x3, u6⟩, ⟨x4, u7⟩, ⟨x5, u8⟩⟩ := id hH
    obtain ⟨Fx, w0, w1, w2, w3, w5, ⟨y3, w6⟩, ⟨y4, w7⟩, ⟨y5, w8⟩⟩ := id hA
    have ha := hL.1
    refine xT.s1 hM rfl rfl ?_
    refine xT.s1 hM rfl rfl ?_
    refine xT.s1 hM rfl rfl ?_
    refine xT.s1 hM rfl rfl ?_
    rw [show nI o + Int32.ofInt 1 = nI (o + 1) from nI_add o 1]
    have hval := HV d (o + 1) _ _ _ _ _ _ _ _ _ _ _ h3 hVh3 rm3 (by omega) (by omega)
    rw [show d + 2 * (60 - (o + 1)) + 14 = d + 2 * (60 - o) + 12 from by omega] at hval
    refine xT.ca hM rfl rfl rfl rfl rfl rfl (xc_virt rfl rfl rfl hq ⟨rfl, Nat.le_of_ble_eq_true rfl, rfl, Or.inl rfl⟩) rfl ⟨Nat.le_of_ble_eq_true rfl, Nat.le_of_ble_eq_true rfl, by decide⟩ rfl (hval) (fun v h4 hv => ?_) (fun ce xq h4 he => R03.ex (by omega) he)
    obtain ⟨rfl, th4, ta4, qe4, cap4, sz4, kh4, bh4, eh4, ka4, ba4, ea4, hV4, R4, p4⟩ := hv
    have R04 := R03.tr R4
    obtain ⟨Gn, hn⟩ := ((th2.tr th3).tr R4.2.1) _ _ hnb
    have hnt := hV4.nt hn
    refine xT.s1 hM rfl rfl ?_
    refine xT.s1 hM rfl rfl ?_
    refine xT.put hM rfl rfl hn (Or.inl rfl) (by rw [hnt.1]; decide) (rfl) (Or.inl rfl) (fun h5 G5 eF eh5 up fb fo fl => ?_)
    obtain ⟨hV5, R5⟩ := hV4.node up hn (hnt.put fl fb fo (Or.inr (Or.inr ⟨rfl, _, rfl⟩))) R4.2.2.2.2.1
    obtain ⟨⟨F0, hq, lq, p0, p1, ⟨zp, p2⟩⟩, ⟨Ft, gl, kp, hT⟩, hH, hA, hht, ⟨Fa, ef, hL⟩, hY⟩ := id hV5.1
    obtain ⟨ht, lt, t0, t1, t2, t3, t4, t5, hb8, hl8, k4, l4, hne⟩ := id hT
    obtain ⟨Fh, u0, u1, u2, u3, u5, ⟨x3, u6⟩, ⟨x4, u7⟩, ⟨x5, u8⟩⟩ := id hH
    obtain ⟨Fx, w0, w1, w2, w3, w5, ⟨y3, w6⟩, ⟨y4, w7⟩, ⟨y5, w8⟩⟩ := id hA
    have ha := hL.1
    refine xT.s1 hM rfl rfl ?_
    refine xT.s1 hM rfl rfl ?_
    refine xT.go hM rfl rfl rfl rfl rfl rfl (xc_virt rfl rfl rfl hq ⟨rfl, Nat.le_of_ble_eq_true rfl, rfl, Or.inl rfl⟩) rfl ⟨Nat.le_of_ble_eq_true rfl, Nat.le_of_ble_eq_true rfl, by decide⟩ (c_close hV5.1 up.1) (fun v h6 hv => ?_)
    obtain ⟨rfl, s1, s2, s3, s4, s5⟩ := hv
    have R6 : c_R h5 qb ql cap4 sz4 bh4 h6 cap4 sz4 bh4 := ⟨s2, s3, by omega, Nat.le_refl _, R4.2.2.2.2.1, Nat.le_refl _, by omega, by omega, by omega⟩
    exact xT.ret hM rfl rfl rfl rfl (⟨rfl, _, _, _, _, _, _, _, _, _, _, _, ⟨s1, hV5.2⟩, (R04.tr R5).tr R6, by omega⟩)
  · refine xT.s1 hM rfl rfl ?_
    refine xT.ca hM rfl rfl rfl rfl rfl rfl (xc_virt rfl rfl rfl hq ⟨rfl, Nat.le_of_ble_eq_true rfl, rfl, Or.inl rfl⟩) rfl ⟨Nat.le_of_ble_eq_true rfl, Nat.le_of_ble_eq_true rfl, by decide⟩ rfl (c_refuse hVh2.1 x2 (by omega) (by omega)) (fun v h3 hv => ?_) (fun ce xq h3 he => R2.ex (by omega) he.ve)
    exact hv.elim
theorem c_brLoop (hE : e.1 = .null ∨ ∃ w, e.1 = .float w) (HV : c_VC e q0 qt qb ql qa gb len N) (ho : o < 60) : ∀ (M : Nat) (i mo : Int32) (th ta qe cap1 sz1 : Nat) (kh : Int32) (bh1 eh : Nat) (ka : Int32) (ba ea : Nat) (h : ab_H), len - bh1 < M → c_V h q0 qt qb ql th ta qa qe gb len cap1 sz1 kh bh1 eh ka ba ea → c_R h0 qb ql cap sz bh h cap1 sz1 bh1 → len - bh1 < N ∧ bh < bh1 → c_rm e h len cap1 sz1 bh1 → (∃ G, h[nw]? = some (.inr (10, G))) → xT e (d + 2 * (60 - o) + 13) 108 73 [(4, .int i), (3, .int mo), (2, .ref nw), (0, .ref q0), (1, .int (nI o))] [] h (x_Q (c_VN h0 q0 qt qb ql qa gb len cap sz bh) (c_VE h0 q0 qt qb ql qa gb len cap bh)) := by
  have hM : (x_mt e.1)[108]? = some xM108 := rfl
  intro M
  induction M with
  | zero => intro i mo th ta qe cap1 sz1 kh bh1 eh ka ba ea h m1; omega
  | succ M ih =>
    intro i mo th ta qe cap1 sz1 kh bh1 eh ka ba ea h m1 hV hR hb0 hr hw
    obtain ⟨⟨F0, hq, lq, p0, p1, ⟨zp, p2⟩⟩, ⟨Ft, gl, kp, hT⟩, hH, hA, hht, ⟨Fa, ef, hL⟩, hY⟩ := id hV.1
    obtain ⟨ht, lt, t0, t1, t2, t3, t4, t5, hb8, hl8, k4, l4, hne⟩ := id hT
    obtain ⟨Fh, u0, u1, u2, u3, u5, ⟨x3, u6⟩, ⟨x4, u7⟩, ⟨x5, u8⟩⟩ := id hH
    obtain ⟨Fx, w0, w1, w2, w3, w5, ⟨y3, w6⟩, ⟨y4, w7⟩, ⟨y5, w8⟩⟩ := id hA
    have ha := hL.1
    obtain ⟨hbl, hba⟩ := hV.bl
    obtain ⟨x1, x2, x3x, x4x⟩ := id hr
    obtain ⟨Gw, hw0⟩ := id hw
    have hnt := hV.nt hw0
    obtain ⟨zk, g0⟩ := hnt.2.1
    have fin : xT e (d + 2 * (60 - o) + 13) 108 170 [(4, .int i), (3, .int mo), (2, .ref nw), (0, .ref q0), (1, .int (nI o))] [] h (x_Q (c_VN h0 q0 qt qb ql qa gb len cap sz bh) (c_VE h0 q0 qt qb ql qa gb len cap bh)) := by
      refine xT.s1 hM rfl rfl ?_
      refine xT.s1 hM rfl rfl ?_
      refine xT.ca hM rfl rfl rfl rfl rfl rfl (xc_virt rfl rfl rfl hq ⟨rfl, Nat.le_of_ble_eq_true rfl, rfl, Or.inl rfl⟩) rfl ⟨Nat.le_of_ble_eq_true rfl, Nat.le_of_ble_eq_true rfl, by decide⟩ rfl (c_demand hV.1 x2 (by omega) (by omega)) (fun v h3 hv => ?_) (fun ce xq h3 he => hR.ex (by omega) he.ve)
      obtain ⟨rfl, hh3, hk2⟩ := hv
      subst h3
      refine xT.s1 hM rfl rfl ?_
      refine xT.s2 hM rfl rfl (x2_get rfl (Or.inl rfl) hq p0) ?_
      refine xT.go hM rfl rfl rfl rfl rfl rfl (xc_virt rfl rfl rfl ht ⟨rfl, Nat.le_of_ble_eq_true rfl, rfl, Or.inl rfl⟩) rfl ⟨Nat.le_of_ble_eq_true rfl, Nat.le_of_ble_eq_true rfl, by decide⟩ (c_advV hE hV) (fun v h3 hv => ?_)
      obtain ⟨rfl, kdh3, bbh3, enh3, hVh3, prh3, fh3, th3, lh3, zh3⟩ := hv
      have p3 := prh3 (by rw [hk2]; decide) (by rw [hk2]; decide)
      have R3 : c_R h qb ql cap1 sz1 bh1 h3 cap1 sz1 ba := ⟨fh3, th3, by omega, Nat.le_refl _, x2, by omega, by omega, by omega, by omega⟩
      obtain ⟨G3, hw3⟩ := th3 _ _ hw0
      obtain ⟨⟨F0, hq, lq, p0, p1, ⟨zp, p2⟩⟩, ⟨Ft, gl, kp, hT⟩, hH, hA, hht, ⟨Fa, ef, hL⟩, hY⟩ := id hVh3.1
      obtain ⟨ht, lt, t0, t1, t2, t3, t4, t5, hb8, hl8, k4, l4, hne⟩ := id hT
      obtain ⟨Fh, u0, u1, u2, u3, u5, ⟨x3, u6⟩, ⟨x4, u7⟩, ⟨x5, u8⟩⟩ := id hH
      obtain ⟨Fx, w0, w1, w2, w3, w5, ⟨y3, w6⟩, ⟨y4, w7⟩, ⟨y5, w8⟩⟩ := id hA
      have ha := hL.1
      refine xT.s1 hM rfl rfl ?_
      refine xT.s1 hM rfl rfl ?_
      refine xT.go hM rfl rfl rfl rfl rfl rfl (xc_virt rfl rfl rfl hq ⟨rfl, Nat.le_of_ble_eq_true rfl, rfl, Or.inl rfl⟩) rfl ⟨Nat.le_of_ble_eq_true rfl, Nat.le_of_ble_eq_true rfl, by decide⟩ (c_close hVh3.1 hw3) (fun v h6 hv => ?_)
      obtain ⟨rfl, s1, s2, s3, s4, s5⟩ := hv
      have R6 : c_R h3 qb ql cap1 sz1 ba h6 cap1 sz1 ba := ⟨s2, s3, by omega, Nat.le_refl _, x2, Nat.le_refl _, by omega, by omega, by omega⟩
      exact xT.ret hM rfl rfl rfl rfl (⟨rfl, _, _, _, _, _, _, _, _, _, _, _, ⟨s1, hVh3.2⟩, (hR.tr R3).tr R6, by omega⟩)
    refine xT.s1 hM rfl rfl ?_
    refine xT.s1 hM rfl rfl ?_
    refine xT.s1 hM rfl rfl ?_
    refine xT.br (fun bi => ?_) (fun bi => ?_)
    · exact fin
    · refine xT.s1 hM rfl rfl ?_
      refine xT.s1 hM rfl rfl ?_
      refine xT.br (fun bm => ?_) (fun bm => ?_)
      · exact fin
      · refine xT.s1 hM rfl rfl ?_
        refine xT.s2 hM rfl rfl (x2_get rfl (Or.inl rfl) hw0 g0) ?_
        refine xT.s1 hM rfl rfl ?_
        refine xT.s1 hM rfl rfl ?_
        refine xT.br (fun bk => ?_) (fun bk => ?_)
        · refine xT.s1 hM rfl rfl ?_
          refine xT.ca hM rfl rfl rfl rfl rfl rfl (xc_virt rfl rfl rfl hq ⟨rfl, Nat.le_of_ble_eq_true rfl, rfl, Or.inl rfl⟩) rfl ⟨Nat.le_of_ble_eq_true rfl, Nat.le_of_ble_eq_true rfl, by decide⟩ rfl (c_idw hE hV hr) (fun v h3 hv => ?_) (fun ce xq h3 he => hR.ex (by omega) he)
          obtain ⟨ni, rfl, ⟨Gi0, hid⟩, -, th3, ta3, qe3, cap3, sz3, kh3, bh3, eh3, ka3, ba3, ea3, hV3, R3, p3⟩ := hv
          refine xT.s1 hM rfl rfl ?_
          refine xT.s1 hM rfl rfl ?_
          obtain ⟨hblx, hbax⟩ := hV3.bl
          obtain ⟨⟨F0, hq, lq, p0, p1, ⟨zp, p2⟩⟩, ⟨Ft, gl, kp, hT⟩, hH, hA, hht, ⟨Fa, ef, hL⟩, hY⟩ := id hV3.1
          obtain ⟨ht, lt, t0, t1, t2, t3, t4, t5, hb8, hl8, k4, l4, hne⟩ := id hT
          obtain ⟨Fh, u0, u1, u2, u3, u5, ⟨x3, u6⟩, ⟨x4, u7⟩, ⟨x5, u8⟩⟩ := id hH
          obtain ⟨Fx, w0, w1, w2, w3, w5, ⟨y3, w6⟩, ⟨y4, w7⟩, ⟨y5, w8⟩⟩ := id hA
          have ha := hL.1
          refine xT.s1 hM rfl rfl ?_
          refine xT.s1 hM rfl rfl ?_
          refine xT.s1 hM rfl rfl ?_
          refine xT.s1 hM rfl rfl ?_
          rw [show nI o + Int32.ofInt 1 = nI (o + 1) from nI_add o 1]
          have hval := HV d (o + 1) _ _ _ _ _ _ _ _ _ _ _ h3 hV3 (R3.rm hr (by omega)) (by omega) (by omega)
          rw [show d + 2 * (60 - (o + 1)) + 14 = d + 2 * (60 - o) + 12 from by omega] at hval
          refine xT.ca hM rfl rfl rfl rfl rfl rfl (xc_virt rfl rfl rfl hq ⟨rfl, Nat.le_of_ble_eq_true rfl, rfl, Or.inl rfl⟩) rfl ⟨Nat.le_of_ble_eq_true rfl, Nat.le_of_ble_eq_true rfl, by decide⟩ rfl (hval) (fun v h4 hv => ?_) (fun ce xq h4 he => (hR.tr R3).ex (by omega) he)
          obtain ⟨rfl, th4, ta4, qe4, cap4, sz4, kh4, bh4, eh4, ka4, ba4, ea4, hV4, R4, p4⟩ := hv
          have R14 := R3.tr R4
          obtain ⟨hbl4, hba4⟩ := hV4.bl
          obtain ⟨Gi, hi4⟩ := R4.2.1 _ _ hid
          obtain ⟨⟨F0, hq, lq, p0, p1, ⟨zp, p2⟩⟩, ⟨Ft, gl, kp, hT⟩, hH, hA, hht, ⟨Fa, ef, hL⟩, hY⟩ := id hV4.1
          obtain ⟨ht, lt, t0, t1, t2, t3, t4, t5, hb8, hl8, k4, l4, hne⟩ := id hT
          obtain ⟨Fh, u0, u1, u2, u3, u5, ⟨x3, u6⟩, ⟨x4, u7⟩, ⟨x5, u8⟩⟩ := id hH
          obtain ⟨Fx, w0, w1, w2, w3, w5, ⟨y3, w6⟩, ⟨y4, w7⟩, ⟨y5, w8⟩⟩ := id hA
          have ha := hL.1
          refine xT.s1 hM rfl rfl ?_
          refine xT.s1 hM rfl rfl ?_
          refine xT.s1 hM rfl rfl ?_
          refine xT.s1 hM rfl rfl ?_
          refine xT.go hM rfl rfl rfl rfl rfl rfl (xc_virt rfl rfl rfl hq ⟨rfl, Nat.le_of_ble_eq_true rfl, rfl, Or.inl rfl⟩) rfl ⟨Nat.le_of_ble_eq_true rfl, Nat.le_of_ble_eq_true rfl, by decide⟩ (c_close hV4.1 hi4) (fun v h5 hv => ?_)
          obtain ⟨rfl, s1, s2, s3, s4, s5⟩ := hv
          have R5 : c_R h4 qb ql cap4 sz4 bh4 h5 cap4 sz4 bh4 := ⟨s2, s3, by omega, Nat.le_refl _, R4.2.2.2.2.1, Nat.le_refl _, by omega, by omega, by omega⟩
          have hV5 : c_V h5 q0 qt qb ql th4 ta4 qa qe4 gb len cap4 sz4 kh4 bh4 eh4 ka4 ba4 ea4 := ⟨s1, hV4.2⟩
          have R15 := R14.tr R5
          obtain ⟨G5, hw5⟩ := R15.2.1 _ _ hw0
          have hnt5 := hV5.nt hw5
          obtain ⟨zz5, g55⟩ := hnt5.2.2.2.2.2.2.1
          obtain ⟨⟨F0, hq, lq, p0, p1, ⟨zp, p2⟩⟩, ⟨Ft, gl, kp, hT⟩, hH, hA, hht, ⟨Fa, ef, hL⟩, hY⟩ := id hV5.1
          obtain ⟨ht, lt, t0, t1, t2, t3, t4, t5, hb8, hl8, k4, l4, hne⟩ := id hT
          obtain ⟨Fh, u0, u1, u2, u3, u5, ⟨x3, u6⟩, ⟨x4, u7⟩, ⟨x5, u8⟩⟩ := id hH
          obtain ⟨Fx, w0, w1, w2, w3, w5, ⟨y3, w6⟩, ⟨y4, w7⟩, ⟨y5, w8⟩⟩ := id hA
          have ha := hL.1
          refine xT.s1 hM rfl rfl ?_
          refine xT.s1 hM rfl rfl ?_
          refine xT.s2 hM rfl rfl (x2_get rfl (Or.inl rfl) hw5 g55) ?_
          refine xT.s1 hM rfl rfl ?_
          refine xT.s1 hM rfl rfl ?_
          refine xT.put hM rfl rfl hw5 (Or.inl rfl) (by rw [hnt5.1]; decide) (rfl) (Or.inl rfl) (fun h6 G6 eF eh6 up fb fo fl => ?_)
          obtain ⟨hV6, R6⟩ := hV5.node up hw5 (hnt5.put fl fb fo (Or.inr (Or.inr ⟨rfl, _, rfl⟩))) R4.2.2.2.2.1
          have R16 := R15.tr R6
          have rm6 := R16.rm hr hbl4
          obtain ⟨⟨F0, hq, lq, p0, p1, ⟨zp, p2⟩⟩, ⟨Ft, gl, kp, hT⟩, hH, hA, hht, ⟨Fa, ef, hL⟩, hY⟩ := id hV6.1
          obtain ⟨ht, lt, t0, t1, t2, t3, t4, t5, hb8, hl8, k4, l4, hne⟩ := id hT
          obtain ⟨Fh, u0, u1, u2, u3, u5, ⟨x3, u6⟩, ⟨x4, u7⟩, ⟨x5, u8⟩⟩ := id hH
          obtain ⟨Fx, w0, w1, w2, w3, w5, ⟨y3, w6⟩, ⟨y4, w7⟩, ⟨y5, w8⟩⟩ := id hA
          have ha := hL.1
          refine xT.s1 hM rfl rfl ?_
          refine xT.s2 hM rfl rfl (x2_get rfl (Or.inl rfl) hq p0) ?_
          refine xT.s2 hM rfl rfl (x2_get rfl (Or.inl rfl) ht t4) ?_
          refine xT.s2 hM rfl rfl (x2_get rfl (Or.inl rfl) u0 u2) ?_
          refine xT.s1 hM rfl rfl ?_
          refine xT.s1 hM rfl rfl ?_
          refine xT.br (fun bc => ?_) (fun bc => ?_)
          · refine xT.s1 hM rfl rfl ?_
            refine xT.s1 hM rfl rfl ?_
            refine xT.s1 hM rfl rfl ?_
            refine xT.s1 hM rfl rfl ?_
            refine xT.s1 hM rfl rfl ?_
            refine xT.brF (by decide) ?_
            refine xT.s1 hM rfl rfl ?_
            refine xT.s2 hM rfl rfl (x2_get rfl (Or.inl rfl) hq p0) ?_
            refine xT.go hM rfl rfl rfl rfl rfl rfl (xc_virt rfl rfl rfl ht ⟨rfl, Nat.le_of_ble_eq_true rfl, rfl, Or.inl rfl⟩) rfl ⟨Nat.le_of_ble_eq_true rfl, Nat.le_of_ble_eq_true rfl, by decide⟩ (c_advV hE hV6) (fun v h7 hv => ?_)
            obtain ⟨rfl, kdh7, bbh7, enh7, hVh7, prh7, fh7, th7, lh7, zh7⟩ := hv
            have p7 := prh7 (by rw [bc]; decide) (by rw [bc]; decide)
            have R7 : c_R h6 qb ql cap4 sz4 bh4 h7 cap4 sz4 ba4 := ⟨fh7, th7, by omega, Nat.le_refl _, R4.2.2.2.2.1, by omega, by omega, by omega, by omega⟩
            obtain ⟨G7, hw7⟩ := th7 _ _ up.1
            refine xT.s1 hM rfl rfl ?_
            refine xT.s1 hM rfl rfl ?_
            exact xT.weak (L' := [(4, _), (3, _), (5, _), (2, _), (0, _), (1, _)]) ⟨by simp, by simp⟩ (ih (i + Int32.ofInt 1) (Int32.ofInt 1) _ _ _ _ _ _ _ _ _ _ _ h7 (by omega) hVh7 (hR.tr (R16.tr R7)) (by omega) (R7.rm rm6 hba4) ⟨G7, hw7⟩)
          · refine xT.s1 hM rfl rfl ?_
            refine xT.s1 hM rfl rfl ?_
            refine xT.s1 hM rfl rfl ?_
            refine xT.s1 hM rfl rfl ?_
            refine xT.brT (by decide) ?_
            refine xT.s1 hM rfl rfl ?_
            refine xT.s1 hM rfl rfl ?_
            exact xT.weak (L' := [(4, _), (3, _), (5, _), (2, _), (0, _), (1, _)]) ⟨by simp, by simp⟩ (ih (i + Int32.ofInt 1) (Int32.ofInt 0) _ _ _ _ _ _ _ _ _ _ _ h6 (by omega) hV6 (hR.tr R16) (by omega) rm6 ⟨G6, up.1⟩)
        · refine xT.s1 hM rfl rfl ?_
          refine xT.s1 hM rfl rfl ?_
          have Rz := c_R.rf (h := h) (qb := qb) (ql := ql) (sz := sz1) (bh := bh1) x2
          obtain ⟨hblx, hbax⟩ := hV.bl
          obtain ⟨⟨F0, hq, lq, p0, p1, ⟨zp, p2⟩⟩, ⟨Ft, gl, kp, hT⟩, hH, hA, hht, ⟨Fa, ef, hL⟩, hY⟩ := id hV.1
          obtain ⟨ht, lt, t0, t1, t2, t3, t4, t5, hb8, hl8, k4, l4, hne⟩ := id hT
          obtain ⟨Fh, u0, u1, u2, u3, u5, ⟨x3, u6⟩, ⟨x4, u7⟩, ⟨x5, u8⟩⟩ := id hH
          obtain ⟨Fx, w0, w1, w2, w3, w5, ⟨y3, w6⟩, ⟨y4, w7⟩, ⟨y5, w8⟩⟩ := id hA
          have ha := hL.1
          refine xT.s1 hM rfl rfl ?_
          refine xT.s1 hM rfl rfl ?_
          refine xT.s1 hM rfl rfl ?_
          refine xT.s1 hM rfl rfl ?_
          rw [show nI o + Int32.ofInt 1 = nI (o + 1) from nI_add o 1]
          have hval := HV d (o + 1) _ _ _ _ _ _ _ _ _ _ _ h hV (Rz.rm hr (by omega)) (by omega) (by omega)
          rw [show d + 2 * (60 - (o + 1)) + 14 = d + 2 * (60 - o) + 12 from by omega] at hval
          refine xT.ca hM rfl rfl rfl rfl rfl rfl (xc_virt rfl rfl rfl hq ⟨rfl, Nat.le_of_ble_eq_true rfl, rfl, Or.inl rfl⟩) rfl ⟨Nat.le_of_ble_eq_true rfl, Nat.le_of_ble_eq_true rfl, by decide⟩ rfl (hval) (fun v h4 hv => ?_) (fun ce xq h4 he => (hR.tr Rz).ex (by omega) he)
          obtain ⟨rfl, th4, ta4, qe4, cap4, sz4, kh4, bh4, eh4, ka4, ba4, ea4, hV4, R4, p4⟩ := hv
          have R14 := Rz.tr R4
          obtain ⟨hbl4, hba4⟩ := hV4.bl
          have hV5 := hV4
          have R15 := R14
          obtain ⟨G5, hw5⟩ := R15.2.1 _ _ hw0
          have hnt5 := hV5.nt hw5
          obtain ⟨zz5, g55⟩ := hnt5.2.2.2.2.2.2.1
          obtain ⟨⟨F0, hq, lq, p0, p1, ⟨zp, p2⟩⟩, ⟨Ft, gl, kp, hT⟩, hH, hA, hht, ⟨Fa, ef, hL⟩, hY⟩ := id hV5.1
          obtain ⟨ht, lt, t0, t1, t2, t3, t4, t5, hb8, hl8, k4, l4, hne⟩ := id hT
          obtain ⟨Fh, u0, u1, u2, u3, u5, ⟨x3, u6⟩, ⟨x4, u7⟩, ⟨x5, u8⟩⟩ := id hH
          obtain ⟨Fx, w0, w1, w2, w3, w5, ⟨y3, w6⟩, ⟨y4, w7⟩, ⟨y5, w8⟩⟩ := id hA
          have ha := hL.1
          refine xT.s1 hM rfl rfl ?_
          refine xT.s1 hM rfl rfl ?_
          refine xT.s1 hM rfl rfl ?_
          refine xT.s1 hM rfl rfl ?_
          refine xT.s2 hM rfl rfl (x2_get rfl (Or.inl rfl) hw5 g55) ?_
          refine xT.s1 hM rfl rfl ?_
          refine xT.s1 hM rfl rfl ?_
          refine xT.put hM rfl rfl hw5 (Or.inl rfl) (by rw [hnt5.1]; decide) (rfl) (Or.inl rfl) (fun h6 G6 eF eh6 up fb fo fl => ?_)
          obtain ⟨hV6, R6⟩ := hV5.node up hw5 (hnt5.put fl fb fo (Or.inr (Or.inr ⟨rfl, _, rfl⟩))) R4.2.2.2.2.1
          have R16 := R15.tr R6
          have rm6 := R16.rm hr hbl4
          obtain ⟨⟨F0, hq, lq, p0, p1, ⟨zp, p2⟩⟩, ⟨Ft, gl, kp, hT⟩, hH, hA, hht, ⟨Fa, ef, hL⟩, hY⟩ := id hV6.1
          obtain ⟨ht, lt, t0, t1, t2, t3, t4, t5, hb8, hl8, k4, l4, hne⟩ := id hT
          obtain ⟨Fh, u0, u1, u2, u3, u5, ⟨x3, u6⟩, ⟨x4, u7⟩, ⟨x5, u8⟩⟩ := id hH
          obtain ⟨Fx, w0, w1, w2, w3, w5, ⟨y3, w6⟩, ⟨y4, w7⟩, ⟨y5, w8⟩⟩ := id hA
          have ha := hL.1
          refine xT.s1 hM rfl rfl ?_
          refine xT.s2 hM rfl rfl (x2_get rfl (Or.inl rfl) hq p0) ?_
          refine xT.s2 hM rfl rfl (x2_get rfl (Or.inl rfl) ht t4) ?_
          refine xT.s2 hM rfl rfl (x2_get rfl (Or.inl rfl) u0 u2) ?_
          refine xT.s1 hM rfl rfl ?_
          refine xT.s1 hM rfl rfl ?_
          refine xT.br (fun bc => ?_) (fun bc => ?_)
          · refine xT.s1 hM rfl rfl ?_
            refine xT.s1 hM rfl rfl ?_
            refine xT.s1 hM rfl rfl ?_
            refine xT.s1 hM rfl rfl ?_
            refine xT.s1 hM rfl rfl ?_
            refine xT.brF (by decide) ?_
            refine xT.s1 hM rfl rfl ?_
            refine xT.s2 hM rfl rfl (x2_get rfl (Or.inl rfl) hq p0) ?_
            refine xT.go hM rfl rfl rfl rfl rfl rfl (xc_virt rfl rfl rfl ht ⟨rfl, Nat.le_of_ble_eq_true rfl, rfl, Or.inl rfl⟩) rfl ⟨Nat.le_of_ble_eq_true rfl, Nat.le_of_ble_eq_true rfl, by decide⟩ (c_advV hE hV6) (fun v h7 hv => ?_)
            obtain ⟨rfl, kdh7, bbh7, enh7, hVh7, prh7, fh7, th7, lh7, zh7⟩ := hv
            have p7 := prh7 (by rw [bc]; decide) (by rw [bc]; decide)
            have R7 : c_R h6 qb ql cap4 sz4 bh4 h7 cap4 sz4 ba4 := ⟨fh7, th7, by omega, Nat.le_refl _, R4.2.2.2.2.1, by omega, by omega, by omega, by omega⟩
            obtain ⟨G7, hw7⟩ := th7 _ _ up.1
            refine xT.s1 hM rfl rfl ?_
            refine xT.s1 hM rfl rfl ?_
            exact xT.weak (L' := [(4, _), (3, _), (5, _), (2, _), (0, _), (1, _)]) ⟨by simp, by simp⟩ (ih (i + Int32.ofInt 1) (Int32.ofInt 1) _ _ _ _ _ _ _ _ _ _ _ h7 (by omega) hVh7 (hR.tr (R16.tr R7)) (by omega) (R7.rm rm6 hba4) ⟨G7, hw7⟩)
          · refine xT.s1 hM rfl rfl ?_
            refine xT.s1 hM rfl rfl ?_
            refine xT.s1 hM rfl rfl ?_
            refine xT.s1 hM rfl rfl ?_
            refine xT.brT (by decide) ?_
            refine xT.s1 hM rfl rfl ?_
            refine xT.s1 hM rfl rfl ?_
            exact xT.weak (L' := [(4, _), (3, _), (5, _), (2, _), (0, _), (1, _)]) ⟨by simp, by simp⟩ (ih (i + Int32.ofInt 1) (Int32.ofInt 0) _ _ _ _ _ _ _ _ _ _ _ h6 (by omega) hV6 (hR.tr R16) (by omega) rm6 ⟨G6, up.1⟩)
end XCX
