/-! both objects are made -/
/-- h came of h0: n cells more, z more in size; all is as it was but the cell q -/
def i_F (h0 h : ab_H) (q n z : Nat) : Prop := (∀ (k : Nat) (x : ab_E), h0[k]? = some x → k ≠ q → h[k]? = some x) ∧ h.length = h0.length + n ∧ ab_sz h = ab_sz h0 + z
section XIN
variable {e : xE} {d mi pc len tg j x b n k q z t0 ci : Nat} {L : ab_L} {S : List Value} {h0 h h1 h2 : ab_H} {Q : ab_O → ab_H → Prop} {M : ab_M} {fl v : Value} {F : List Value} {f : Nat → Value} {y : ab_E}
theorem i_F.rf : i_F h0 h0 q 0 0 := ⟨fun _ _ hk _ => hk, rfl, rfl⟩
theorem i_F.up (a : i_F h0 h q n z) (u : x_up h j h1 y) (hj : j = q ∨ h0.length ≤ j) : i_F h0 h1 q n z := by
  refine ⟨fun k x hk hn => ?_, u.2.2.1.trans a.2.1, u.2.2.2.trans a.2.2⟩
  have := x_lt hk
  rw [u.2.1 k (by omega)]
  exact a.1 k x hk hn
theorem i_F.up2 (a : i_F h0 h q n z) (u : ∀ k, k ≠ j → h1[k]? = h[k]?) (l : h1.length = h.length) (s : ab_sz h1 = ab_sz h) (hj : j = q ∨ h0.length ≤ j) : i_F h0 h1 q n z := by
  refine ⟨fun k x hk hn => ?_, l.trans a.2.1, s.trans a.2.2⟩
  have := x_lt hk
  rw [u k (by omega)]
  exact a.1 k x hk hn
theorem i_F.nw (a : i_F h0 h q n z) (w : x_nw h h1 y) : i_F h0 h1 q (n + 1) (z + ab_sz1 y) := ⟨fun k x hk hn => w.2.1 _ _ (a.1 k x hk hn), by rw [w.2.2.1, a.2.1]; rfl, by rw [w.2.2.2, a.2.2, Nat.add_assoc]⟩
theorem i_F.tr {c s : Nat} (a : i_F h0 h1 q n z) (b : i_F h1 h2 j c s) (hj : h0.length ≤ j) : i_F h0 h2 q (n + c) (z + s) := by
  refine ⟨fun k x hk hn => ?_, by rw [b.2.1, a.2.1, Nat.add_assoc], by rw [b.2.2, a.2.2, Nat.add_assoc]⟩
  have := x_lt hk
  exact b.1 k x (a.1 k x hk hn) (by omega)
theorem xT.newb {m : Nat} (hM : (x_mt e.1)[mi]? = some M) (hf : ab_fe M pc = some (.newarray .byte, len, tg)) (hm : m ≤ 65536) (r1 : h.length + 1 ≤ e.2.2.2.1) (r2 : ab_sz h + m ≤ e.2.2.2.2.1)
    (t : ∀ h1, h1 = h ++ [(.inl (0, m, fun _ => .int 0) : ab_E)] → x_nw h h1 (.inl (0, m, fun _ => .int 0)) → xT e d mi (pc + 2) L (.ref h.length :: S) h1 Q) : xT e d mi pc L (.int (nI m) :: S) h Q :=
  xT.s2 hM hf rfl (x2_newb hm r1 r2) (t _ rfl (x_nw_push h _))
theorem xT.newl {m : Nat} (hM : (x_mt e.1)[mi]? = some M) (hf : ab_fe M pc = some (.newarray .long, len, tg)) (hm : m ≤ 65536) (r1 : h.length + 1 ≤ e.2.2.2.1) (r2 : ab_sz h + m ≤ e.2.2.2.2.1)
    (t : ∀ h1, h1 = h ++ [(.inl (2, m, fun _ => .long 0) : ab_E)] → x_nw h h1 (.inl (2, m, fun _ => .long 0)) → xT e d mi (pc + 2) L (.ref h.length :: S) h1 Q) : xT e d mi pc L (.int (nI m) :: S) h Q := by
  refine xT.s2 hM hf rfl ?_ (t _ rfl (x_nw_push h _))
  simp only [ab_s2, show x_aty.findIdx? (fun q => q == newarray.typeOf .long) = some 2 from by decide]
  rw [if_pos ⟨nI_pos (by omega), by rw [x_clampN (by omega)]; exact hm, r1, by rw [x_clampN (by omega)]; exact r2, by decide⟩, x_clampN (by omega)]
  rfl
end XIN
section XIO
variable {e : xE} {d q qk qa qt : Nat} {h0 h : ab_H}
theorem c_kinit (hk : h[qk]? = some (.inr (2, x_cd 2))) : xT e d 120 0 [(0, .ref qk)] [] h (fun o h' => ∃ v, o = .inl v ∧ v = none ∧ c_K h' qk 26 0 0 ∧ (∀ k, k ≠ qk → h'[k]? = h[k]?) ∧ h'.length = h.length ∧ ab_sz h' = ab_sz h) := by
  have lk : (x_cd 2).length = 6 := rfl
  have k1 : (x_cd 2)[1]? = some (.int (nI 0)) := rfl
  have k2 : (x_cd 2)[2]? = some (.int (nI 0)) := rfl
  have k3 : (x_cd 2)[3]? = some (.int 0) := rfl
  have k4 : (x_cd 2)[4]? = some (.int 0) := rfl
  have k5 : (x_cd 2)[5]? = some (.long 0) := rfl
  have hM : (x_mt e.1)[120]? = some xM120 := rfl
  refine xT.s1 hM rfl rfl ?_
  refine xT.ob hM rfl rfl rfl rfl rfl rfl ?_
  refine xT.s1 hM rfl rfl ?_
  refine xT.s1 hM rfl rfl ?_
  refine xT.put hM rfl rfl hk (Or.inl rfl) (by rw [lk]; decide) (rfl) (Or.inl rfl) (fun h_1 F_1 eF1 eh1 up1 fb1 fo1 fl1 => ?_)
  replace hk := up1.1
  replace lk := fl1.trans lk
  replace k1 := (fo1 1 (by decide)).trans k1
  replace k2 := (fo1 2 (by decide)).trans k2
  replace k3 := (fo1 3 (by decide)).trans k3
  replace k4 := (fo1 4 (by decide)).trans k4
  replace k5 := (fo1 5 (by decide)).trans k5
  have fk0 := fb1
  exact xT.ret hM rfl rfl rfl rfl (⟨_, rfl, rfl, ⟨_, hk, lk, fk0, k1, k2, ⟨_, k3⟩, ⟨_, k4⟩, _, k5⟩, up1.2.1, up1.2.2.1, up1.2.2.2⟩)
theorem c_a59 : xT e d 59 0 [(0, .ref qa)] [] h (fun o h' => ∃ v, o = .inl v ∧ v = none ∧ h' = h) := by
  have hM : (x_mt e.1)[59]? = some xM59 := rfl
  refine xT.s1 hM rfl rfl ?_
  refine xT.ob hM rfl rfl rfl rfl rfl rfl ?_
  exact xT.ret hM rfl rfl rfl rfl (⟨_, rfl, rfl, rfl⟩)
theorem c_a58 (ha : h[qa]? = some (.inr (4, x_cd 4))) : xT e (d + 1) 58 0 [(0, .ref qa)] [] h (fun o h' => ∃ v, o = .inl v ∧ v = none ∧ ∃ F, h'[qa]? = some (.inr (4, F)) ∧ F.length = 3 ∧ F[1]? = some (.int (nI 0)) ∧ F[2]? = some (.int (Int32.ofInt 0)) ∧ (∀ k, k ≠ qa → h'[k]? = h[k]?) ∧ h'.length = h.length ∧ ab_sz h' = ab_sz h) := by
  have la : (x_cd 4).length = 3 := rfl
  have a1 : (x_cd 4)[1]? = some (.int (nI 0)) := rfl
  have hM : (x_mt e.1)[58]? = some xM58 := rfl
  refine xT.s1 hM rfl rfl ?_
  refine xT.go hM rfl rfl rfl rfl rfl rfl (xc_init rfl rfl rfl ⟨rfl, Nat.le_of_ble_eq_true rfl, rfl, rfl, rfl⟩) rfl ⟨Nat.le_of_ble_eq_true rfl, Nat.le_of_ble_eq_true rfl, by decide⟩ (c_a59) (fun v h2 hv => ?_)
  obtain ⟨rfl, hh2⟩ := hv
  subst h2
  refine xT.s1 hM rfl rfl ?_
  refine xT.s1 hM rfl rfl ?_
  refine xT.put hM rfl rfl ha (Or.inl rfl) (by rw [la]; decide) (rfl) (Or.inl rfl) (fun h_1 F_1 eF1 eh1 up1 fb1 fo1 fl1 => ?_)
  replace ha := up1.1
  replace la := fl1.trans la
  replace a1 := (fo1 1 (by decide)).trans a1
  have fa2 := fb1
  exact xT.ret hM rfl rfl rfl rfl (⟨_, rfl, rfl, _, ha, la, a1, fa2, up1.2.1, up1.2.2.1, up1.2.2.2⟩)
theorem c_ainit (ha : h[qa]? = some (.inr (4, x_cd 4))) : xT e (d + 2) 49 0 [(0, .ref qa)] [] h (fun o h' => ∃ v, o = .inl v ∧ v = none ∧ (∃ Fa, c_L h' qa Fa 0 0 0 (fun _ => .null)) ∧ (∀ k, k ≠ qa → h'[k]? = h[k]?) ∧ h'.length = h.length ∧ ab_sz h' = ab_sz h) := by
  have hM : (x_mt e.1)[49]? = some xM49 := rfl
  refine xT.s1 hM rfl rfl ?_
  refine xT.go hM rfl rfl rfl rfl rfl rfl (xc_init rfl rfl rfl ⟨rfl, Nat.le_of_ble_eq_true rfl, rfl, rfl, rfl⟩) rfl ⟨Nat.le_of_ble_eq_true rfl, Nat.le_of_ble_eq_true rfl, by decide⟩ (c_a58 ha) (fun v h2 hv => ?_)
  obtain ⟨rfl, F, ha2, la, a1, a2, u2, l2, s2⟩ := hv
  refine xT.s1 hM rfl rfl ?_
  refine xT.s4 hM rfl rfl rfl rfl rfl rfl rfl rfl rfl rfl ?_
  refine xT.put hM rfl rfl ha2 (Or.inl rfl) (by rw [la]; decide) (rfl) (Or.inl rfl) (fun h_1 F_1 eF1 eh1 up1 fb1 fo1 fl1 => ?_)
  replace ha2 := up1.1
  replace la := fl1.trans la
  replace a1 := (fo1 1 (by decide)).trans a1
  replace a2 := (fo1 2 (by decide)).trans a2
  have fa0 := fb1
  exact xT.ret hM rfl rfl rfl rfl (⟨_, rfl, rfl, ⟨_, ⟨ha2, la, a1, ⟨_, a2⟩, Or.inl ⟨fa0, rfl, rfl⟩, by omega, by omega, fun i hi => absurd hi (Nat.not_lt_zero i)⟩⟩, fun k hk => (up1.2.1 k hk).trans (u2 k hk), by rw [up1.2.2.1, l2], by rw [up1.2.2.2, s2]⟩)
theorem c_pinit (ht : h0[qt]? = some (.inr (1, x_cd 1))) (r1 : h0.length + 10 ≤ e.2.2.2.1) (r2 : ab_sz h0 + 10000 ≤ e.2.2.2.2.1) : xT e (d + 1) 122 0 [(0, .ref qt)] [] h0 (fun o h' => ∃ v, o = .inl v ∧ v = none ∧ (∃ F, c_T h' qt (h0.length + 0) (h0.length + 1) (h0.length + 2) (h0.length + 3) F (fun _ => 0) (fun _ => 0) 0 0) ∧ c_K h' (h0.length + 2) 26 0 0 ∧ c_K h' (h0.length + 3) 26 0 0 ∧ i_F h0 h' qt 4 8204) := by
  have lt : (x_cd 1).length = 6 := rfl
  have t2 : (x_cd 1)[2]? = some (.int (nI 0)) := rfl
  have t3 : (x_cd 1)[3]? = some (.int (nI 0)) := rfl
  have hM : (x_mt e.1)[122]? = some xM122 := rfl
  have hF : i_F h0 h0 qt 0 0 := i_F.rf
  have hqt := x_lt ht
  refine xT.s1 hM rfl rfl ?_
  refine xT.ob hM rfl rfl rfl rfl rfl rfl ?_
  refine xT.s1 hM rfl rfl ?_
  refine xT.s1 hM rfl rfl ?_
  refine xT.newb (m := 4096) hM rfl (by omega) (by have := hF.2.1; omega) (by have := hF.2.2; omega) (fun g1 eg1 wg1 => ?_)
  have lg1 := hF.2.1
  have sg1 := hF.2.2
  have pb := wg1.1
  rw [lg1] at pb
  rw [lg1]
  replace hF : i_F h0 g1 qt 1 4096 := hF.nw wg1
  replace ht := wg1.2.1 _ _ ht
  refine xT.put hM rfl rfl ht (Or.inl rfl) (by rw [lt]; decide) (rfl) (Or.inr ⟨rfl, rfl, rfl⟩) (fun j_2 F_2 eF2 eh2 up2 fb2 fo2 fl2 => ?_)
  replace pb := (up2.2.1 _ (by omega)).trans pb
  replace ht := up2.1
  replace lt := fl2.trans lt
  replace t2 := (fo2 2 (by decide)).trans t2
  replace t3 := (fo2 3 (by decide)).trans t3
  have m0 := fb2
  replace hF := hF.up up2 (Or.inl rfl)
  refine xT.s1 hM rfl rfl ?_
  refine xT.s1 hM rfl rfl ?_
  refine xT.newb (m := 4096) hM rfl (by omega) (by have := hF.2.1; omega) (by have := hF.2.2; omega) (fun g3 eg3 wg3 => ?_)
  have lg3 := hF.2.1
  have sg3 := hF.2.2
  have pl := wg3.1
  rw [lg3] at pl
  rw [lg3]
  replace hF : i_F h0 g3 qt 2 8192 := hF.nw wg3
  replace pb := wg3.2.1 _ _ pb
  replace ht := wg3.2.1 _ _ ht
  refine xT.put hM rfl rfl ht (Or.inl rfl) (by rw [lt]; decide) (rfl) (Or.inr ⟨rfl, rfl, rfl⟩) (fun j_4 F_4 eF4 eh4 up4 fb4 fo4 fl4 => ?_)
  replace pb := (up4.2.1 _ (by omega)).trans pb
  replace pl := (up4.2.1 _ (by omega)).trans pl
  replace ht := up4.1
  replace lt := fl4.trans lt
  replace t2 := (fo4 2 (by decide)).trans t2
  replace t3 := (fo4 3 (by decide)).trans t3
  replace m0 := (fo4 0 (by decide)).trans m0
  have m1 := fb4
  replace hF := hF.up up4 (Or.inl rfl)
  refine xT.s1 hM rfl rfl ?_
  refine xT.new hM rfl rfl rfl (by have := hF.2.1; omega) (by have := hF.2.2; show _ + 6 ≤ _; omega) (fun g5 eg5 wg5 => ?_)
  have lg5 := hF.2.1
  have sg5 := hF.2.2
  have pc := wg5.1
  rw [lg5] at pc
  rw [lg5]
  replace hF : i_F h0 g5 qt 3 8198 := hF.nw wg5
  replace pb := wg5.2.1 _ _ pb
  replace pl := wg5.2.1 _ _ pl
  replace ht := wg5.2.1 _ _ ht
  refine xT.s1 hM rfl rfl ?_
  refine xT.go hM rfl rfl rfl rfl rfl rfl (xc_init rfl rfl rfl ⟨rfl, Nat.le_of_ble_eq_true rfl, rfl, rfl, rfl⟩) rfl ⟨Nat.le_of_ble_eq_true rfl, Nat.le_of_ble_eq_true rfl, by decide⟩ (c_kinit pc) (fun v6 h_6 hv6 => ?_)
  obtain ⟨rfl, kpc, upc, lpc, spc⟩ := hv6
  clear pc
  replace pb := (upc _ (by omega)).trans pb
  replace pl := (upc _ (by omega)).trans pl
  replace ht := (upc _ (by omega)).trans ht
  replace hF := hF.up2 upc lpc spc (Or.inr (by omega))
  refine xT.put hM rfl rfl ht (Or.inl rfl) (by rw [lt]; decide) (rfl) (Or.inl rfl) (fun j_7 F_7 eF7 eh7 up7 fb7 fo7 fl7 => ?_)
  replace pb := (up7.2.1 _ (by omega)).trans pb
  replace pl := (up7.2.1 _ (by omega)).trans pl
  replace kpc := kpc.kept (fun G hG => (up7.2.1 _ (by omega)).trans hG)
  replace ht := up7.1
  replace lt := fl7.trans lt
  replace t2 := (fo7 2 (by decide)).trans t2
  replace t3 := (fo7 3 (by decide)).trans t3
  replace m0 := (fo7 0 (by decide)).trans m0
  replace m1 := (fo7 1 (by decide)).trans m1
  have m4 := fb7
  replace hF := hF.up up7 (Or.inl rfl)
  refine xT.s1 hM rfl rfl ?_
  refine xT.new hM rfl rfl rfl (by have := hF.2.1; omega) (by have := hF.2.2; show _ + 6 ≤ _; omega) (fun g8 eg8 wg8 => ?_)
  have lg8 := hF.2.1
  have sg8 := hF.2.2
  have pd := wg8.1
  rw [lg8] at pd
  rw [lg8]
  replace hF : i_F h0 g8 qt 4 8204 := hF.nw wg8
  replace kpc := kpc.kept (fun G hG => wg8.2.1 _ _ hG)
  replace pb := wg8.2.1 _ _ pb
  replace pl := wg8.2.1 _ _ pl
  replace ht := wg8.2.1 _ _ ht
  refine xT.s1 hM rfl rfl ?_
  refine xT.go hM rfl rfl rfl rfl rfl rfl (xc_init rfl rfl rfl ⟨rfl, Nat.le_of_ble_eq_true rfl, rfl, rfl, rfl⟩) rfl ⟨Nat.le_of_ble_eq_true rfl, Nat.le_of_ble_eq_true rfl, by decide⟩ (c_kinit pd) (fun v9 h_9 hv9 => ?_)
  obtain ⟨rfl, kpd, upd, lpd, spd⟩ := hv9
  clear pd
  replace pb := (upd _ (by omega)).trans pb
  replace pl := (upd _ (by omega)).trans pl
  replace kpc := kpc.kept (fun G hG => (upd _ (by omega)).trans hG)
  replace ht := (upd _ (by omega)).trans ht
  replace hF := hF.up2 upd lpd spd (Or.inr (by omega))
  refine xT.put hM rfl rfl ht (Or.inl rfl) (by rw [lt]; decide) (rfl) (Or.inl rfl) (fun j_10 F_10 eF10 eh10 up10 fb10 fo10 fl10 => ?_)
  replace pb := (up10.2.1 _ (by omega)).trans pb
  replace pl := (up10.2.1 _ (by omega)).trans pl
  replace kpc := kpc.kept (fun G hG => (up10.2.1 _ (by omega)).trans hG)
  replace kpd := kpd.kept (fun G hG => (up10.2.1 _ (by omega)).trans hG)
  replace ht := up10.1
  replace lt := fl10.trans lt
  replace t2 := (fo10 2 (by decide)).trans t2
  replace t3 := (fo10 3 (by decide)).trans t3
  replace m0 := (fo10 0 (by decide)).trans m0
  replace m1 := (fo10 1 (by decide)).trans m1
  replace m4 := (fo10 4 (by decide)).trans m4
  have m5 := fb10
  replace hF := hF.up up10 (Or.inl rfl)
  exact xT.ret hM rfl rfl rfl rfl (⟨_, rfl, rfl, ⟨_, ⟨ht, lt, m0, m1, t2, t3, m4, m5, pb, pl, by omega, by omega, by omega⟩⟩, kpc, kpd, hF.1, hF.2.1, hF.2.2⟩)
theorem c_L.kept0 {qa : Nat} {h' : ab_H} {Fa : List Value} {ef : Nat → Value} (k : c_L h qa Fa 0 0 0 ef) (hk : h'[qa]? = h[qa]?) : c_L h' qa Fa 0 0 0 ef := by
  obtain ⟨a1, a2, a3, a4, a5, a6, a7, a8⟩ := k
  refine ⟨hk.trans a1, a2, a3, a4, ?_, a6, a7, fun i hi => absurd hi (Nat.not_lt_zero i)⟩
  rcases a5 with z | ⟨-, -, z⟩
  · exact Or.inl z
  · omega
theorem c_oinit (hq : h0[q]? = some (.inr (0, x_cd 0))) (hY : c_TY h0) (r1 : h0.length + 20 ≤ e.2.2.2.1) (r2 : ab_sz h0 + 20000 ≤ e.2.2.2.2.1) : xT e (d + 3) 93 0 [(0, .ref q)] [] h0 (fun o h' => ∃ v, o = .inl v ∧ v = none ∧ c_S h' q (h0.length + 0) (h0.length + 1 + 0) (h0.length + 1 + 1) (h0.length + 1 + 2) (h0.length + 1 + 3) (h0.length + 5) 0 (fun _ => 0) 0 0 0 26 0 0 26 0 0 ∧ i_F h0 h' q 6 8213) := by
  have lq : (x_cd 0).length = 3 := rfl
  have p2 : (x_cd 0)[2]? = some (.int 0) := rfl
  have hM : (x_mt e.1)[93]? = some xM93 := rfl
  have hF : i_F h0 h0 q 0 0 := i_F.rf
  have hqq := x_lt hq
  refine xT.s1 hM rfl rfl ?_
  refine xT.ob hM rfl rfl rfl rfl rfl rfl ?_
  refine xT.s1 hM rfl rfl ?_
  refine xT.new hM rfl rfl rfl (by have := hF.2.1; omega) (by have := hF.2.2; show _ + 6 ≤ _; omega) (fun g1 eg1 wg1 => ?_)
  have lg1 := hF.2.1
  have sg1 := hF.2.2
  have ht := wg1.1
  rw [lg1] at ht
  rw [lg1]
  replace hF : i_F h0 g1 q 1 6 := hF.nw wg1
  replace hq := wg1.2.1 _ _ hq
  refine xT.s1 hM rfl rfl ?_
  have ln1 := hF.2.1
  have sz1 := hF.2.2
  refine xT.go hM rfl rfl rfl rfl rfl rfl (xc_init rfl rfl rfl ⟨rfl, Nat.le_of_ble_eq_true rfl, rfl, rfl, rfl⟩) rfl ⟨Nat.le_of_ble_eq_true rfl, Nat.le_of_ble_eq_true rfl, by decide⟩ (c_pinit ht (by omega) (by omega)) (fun v2 h_2 hv2 => ?_)
  obtain ⟨rfl, ⟨Ft, hT⟩, kc, kd, iF⟩ := hv2
  rw [ln1] at hT kc kd
  obtain ⟨ht2, lt, t0, t1, t2, t3, t4, t5, pb, pl, e1, e2, e3⟩ := hT
  clear ht
  replace hq := iF.1 _ _ hq (by omega)
  replace hF : i_F h0 h_2 q 5 8210 := hF.tr iF (by omega)
  refine xT.put hM rfl rfl hq (Or.inl rfl) (by rw [lq]; decide) (rfl) (Or.inr ⟨rfl, rfl, rfl⟩) (fun j_3 F_3 eF3 eh3 up3 fb3 fo3 fl3 => ?_)
  replace ht2 := (up3.2.1 _ (by omega)).trans ht2
  replace pb := (up3.2.1 _ (by omega)).trans pb
  replace pl := (up3.2.1 _ (by omega)).trans pl
  replace kc := kc.kept (fun G hG => (up3.2.1 _ (by omega)).trans hG)
  replace kd := kd.kept (fun G hG => (up3.2.1 _ (by omega)).trans hG)
  replace hq := up3.1
  replace lq := fl3.trans lq
  replace p2 := (fo3 2 (by decide)).trans p2
  have m0 := fb3
  replace hF := hF.up up3 (Or.inl rfl)
  refine xT.s1 hM rfl rfl ?_
  refine xT.new hM rfl rfl rfl (by have := hF.2.1; omega) (by have := hF.2.2; show _ + 3 ≤ _; omega) (fun g4 eg4 wg4 => ?_)
  have lg4 := hF.2.1
  have sg4 := hF.2.2
  have ha := wg4.1
  rw [lg4] at ha
  rw [lg4]
  replace hF : i_F h0 g4 q 6 8213 := hF.nw wg4
  replace kc := kc.kept (fun G hG => wg4.2.1 _ _ hG)
  replace kd := kd.kept (fun G hG => wg4.2.1 _ _ hG)
  replace ht2 := wg4.2.1 _ _ ht2
  replace pb := wg4.2.1 _ _ pb
  replace pl := wg4.2.1 _ _ pl
  replace hq := wg4.2.1 _ _ hq
  refine xT.s1 hM rfl rfl ?_
  refine xT.go hM rfl rfl rfl rfl rfl rfl (xc_init rfl rfl rfl ⟨rfl, Nat.le_of_ble_eq_true rfl, rfl, rfl, rfl⟩) rfl ⟨Nat.le_of_ble_eq_true rfl, Nat.le_of_ble_eq_true rfl, by decide⟩ (c_ainit ha) (fun v5 h_5 hv5 => ?_)
  obtain ⟨rfl, ⟨Fa, hL⟩, ua, la2, sa⟩ := hv5
  clear ha
  replace ht2 := (ua _ (by omega)).trans ht2
  replace pb := (ua _ (by omega)).trans pb
  replace pl := (ua _ (by omega)).trans pl
  replace kc := kc.kept (fun G hG => (ua _ (by omega)).trans hG)
  replace kd := kd.kept (fun G hG => (ua _ (by omega)).trans hG)
  replace hq := (ua _ (by omega)).trans hq
  replace hF := hF.up2 ua la2 sa (Or.inr (by omega))
  refine xT.put hM rfl rfl hq (Or.inl rfl) (by rw [lq]; decide) (rfl) (Or.inr ⟨rfl, rfl, rfl⟩) (fun j_6 F_6 eF6 eh6 up6 fb6 fo6 fl6 => ?_)
  replace ht2 := (up6.2.1 _ (by omega)).trans ht2
  replace pb := (up6.2.1 _ (by omega)).trans pb
  replace pl := (up6.2.1 _ (by omega)).trans pl
  replace kc := kc.kept (fun G hG => (up6.2.1 _ (by omega)).trans hG)
  replace kd := kd.kept (fun G hG => (up6.2.1 _ (by omega)).trans hG)
  replace hq := up6.1
  replace lq := fl6.trans lq
  replace p2 := (fo6 2 (by decide)).trans p2
  replace m0 := (fo6 0 (by decide)).trans m0
  have m1 := fb6
  replace hF := hF.up up6 (Or.inl rfl)
  replace hL := hL.kept0 (up6.2.1 _ (by omega))
  refine xT.s1 hM rfl rfl ?_
  refine xT.s1 hM rfl rfl ?_
  refine xT.put hM rfl rfl hq (Or.inl rfl) (by rw [lq]; decide) (rfl) (Or.inl rfl) (fun j_7 F_7 eF7 eh7 up7 fb7 fo7 fl7 => ?_)
  replace ht2 := (up7.2.1 _ (by omega)).trans ht2
  replace pb := (up7.2.1 _ (by omega)).trans pb
  replace pl := (up7.2.1 _ (by omega)).trans pl
  replace kc := kc.kept (fun G hG => (up7.2.1 _ (by omega)).trans hG)
  replace kd := kd.kept (fun G hG => (up7.2.1 _ (by omega)).trans hG)
  replace hq := up7.1
  replace lq := fl7.trans lq
  replace m0 := (fo7 0 (by decide)).trans m0
  replace m1 := (fo7 1 (by decide)).trans m1
  replace p2 := fb7
  replace hF := hF.up up7 (Or.inl rfl)
  replace hL := hL.kept0 (up7.2.1 _ (by omega))
  have hTY2 : c_TY j_7 := by
    intro k G hk
    have hkl := x_lt hk
    rw [hF.2.1] at hkl
    by_cases hk0 : k < h0.length
    · have hx : h0[k]? = some h0[k] := List.getElem?_eq_getElem hk0
      by_cases hkq : k = q
      · subst hkq; rw [hq] at hk; cases hk
      · have z := hF.1 _ _ hx hkq
        rw [hk] at z
        rw [← Option.some.inj z] at hx
        exact hY k G hx
    · obtain ⟨Fc, kc1, -⟩ := kc
      obtain ⟨Fd, kd1, -⟩ := kd
      have hl1 := hL.1
      have hc : k = h0.length + 0 ∨ k = h0.length + 1 + 0 ∨ k = h0.length + 1 + 1 ∨ k = h0.length + 1 + 2 ∨ k = h0.length + 1 + 3 ∨ k = h0.length + 5 := by omega
      rcases hc with rfl | rfl | rfl | rfl | rfl | rfl
      · exact absurd (ht2.symm.trans hk) (by simp)
      · exact absurd (pb.symm.trans hk) (by simp)
      · exact absurd (pl.symm.trans hk) (by simp)
      · exact absurd (kc1.symm.trans hk) (by simp)
      · exact absurd (kd1.symm.trans hk) (by simp)
      · exact absurd (hl1.symm.trans hk) (by simp)
  exact xT.ret hM rfl rfl rfl rfl (⟨_, rfl, rfl, ⟨⟨_, hq, lq, m0, m1, _, p2⟩, ⟨Ft, _, 0, ht2, lt, t0, t1, t2, t3, t4, t5, pb, pl, e1, e2, e3⟩, kc, kd, by omega, ⟨Fa, _, hL⟩, hTY2⟩, hF⟩)
set_option maxRecDepth 4000 in
theorem m_init (hq : h0[q]? = some (.inr (3, x_cd 3))) (z1 : h0.length + 20 ≤ e.2.2.2.1) (z2 : ab_sz h0 + 20000 ≤ e.2.2.2.2.1) (b1 : h0.length < e.2.2.2.2.2) (b2 : e.2.2.2.2.2 ≤ h0.length + 9) : xT e d 10 0 [(0, .ref q)] [] h0 (fun o h' => ∃ v, o = .inl v ∧ v = none ∧ (∃ F, m_G e h' q (h0.length + 0) (fun _ => 0) F 0 0 64 (fun j => h0.length + (j + 3)) (fun _ => .null, fun _ => .null, fun _ => 0, fun _ => 0, fun _ => 0, fun _ => 0)) ∧ i_F h0 h' q 9 4527) := by
  have lq : (x_cd 3).length = 21 := rfl
  have f0 : (x_cd 3)[0]? = some (.int 0) := rfl
  have f2 : (x_cd 3)[2]? = some (.int (nI 0)) := rfl
  have f6 : (x_cd 3)[6]? = some (.int 0) := rfl
  have f7 : (x_cd 3)[7]? = some (.int (nI 0)) := rfl
  have f8 : (x_cd 3)[8]? = some (.int 0) := rfl
  have f9 : (x_cd 3)[9]? = some (.long 0) := rfl
  have f10 : (x_cd 3)[10]? = some (.null) := rfl
  have f11 : (x_cd 3)[11]? = some (.int (nI 0)) := rfl
  have f12 : (x_cd 3)[12]? = some (.int 0) := rfl
  have f14 : (x_cd 3)[14]? = some (.int (nI 0)) := rfl
  have hM : (x_mt e.1)[10]? = some xM10 := rfl
  have hF : i_F h0 h0 q 0 0 := i_F.rf
  have hqq := x_lt hq
  refine xT.s1 hM rfl rfl ?_
  refine xT.ob hM rfl rfl rfl rfl rfl rfl ?_
  refine xT.s1 hM rfl rfl ?_
  refine xT.s1 hM rfl rfl ?_
  refine xT.newb (m := 4096) hM rfl (by omega) (by have := hF.2.1; omega) (by have := hF.2.2; omega) (fun g1 eg1 wg1 => ?_)
  have lg1 := hF.2.1
  have sg1 := hF.2.2
  have h8 := wg1.1
  rw [lg1] at h8
  rw [lg1]
  replace hF : i_F h0 g1 q 1 4096 := hF.nw wg1
  replace hq := wg1.2.1 _ _ hq
  refine xT.put hM rfl rfl hq (Or.inl rfl) (by rw [lq]; decide) (rfl) (Or.inr ⟨rfl, rfl, rfl⟩) (fun j_2 F_2 eF2 eh2 up2 fb2 fo2 fl2 => ?_)
  replace h8 := (up2.2.1 _ (by omega)).trans h8
  replace hq := up2.1
  replace lq := fl2.trans lq
  replace f0 := (fo2 0 (by decide)).trans f0
  replace f2 := (fo2 2 (by decide)).trans f2
  replace f6 := (fo2 6 (by decide)).trans f6
  replace f7 := (fo2 7 (by decide)).trans f7
  replace f8 := (fo2 8 (by decide)).trans f8
  replace f9 := (fo2 9 (by decide)).trans f9
  replace f10 := (fo2 10 (by decide)).trans f10
  replace f11 := (fo2 11 (by decide)).trans f11
  replace f12 := (fo2 12 (by decide)).trans f12
  replace f14 := (fo2 14 (by decide)).trans f14
  have m1 := fb2
  replace hF := hF.up up2 (Or.inl rfl)
  refine xT.s1 hM rfl rfl ?_
  refine xT.s1 hM rfl rfl ?_
  refine xT.put hM rfl rfl hq (Or.inl rfl) (by rw [lq]; decide) (rfl) (Or.inl rfl) (fun j_3 F_3 eF3 eh3 up3 fb3 fo3 fl3 => ?_)
  replace h8 := (up3.2.1 _ (by omega)).trans h8
  replace hq := up3.1
  replace lq := fl3.trans lq
  replace f0 := (fo3 0 (by decide)).trans f0
  replace f2 := (fo3 2 (by decide)).trans f2
  replace f6 := (fo3 6 (by decide)).trans f6
  replace f7 := (fo3 7 (by decide)).trans f7
  replace f8 := (fo3 8 (by decide)).trans f8
  replace f9 := (fo3 9 (by decide)).trans f9
  replace f10 := (fo3 10 (by decide)).trans f10
  replace f11 := (fo3 11 (by decide)).trans f11
  replace f12 := (fo3 12 (by decide)).trans f12
  replace f14 := (fo3 14 (by decide)).trans f14
  replace m1 := (fo3 1 (by decide)).trans m1
  have m3 := fb3
  replace hF := hF.up up3 (Or.inl rfl)
  refine xT.s1 hM rfl rfl ?_
  refine xT.s1 hM rfl rfl ?_
  refine xT.newa (m := 12) hM rfl rfl rfl rfl (by omega) (by have := hF.2.1; omega) (by have := hF.2.2; omega) (fun g4 eg4 wg4 => ?_)
  have lg4 := hF.2.1
  have sg4 := hF.2.2
  have hs := wg4.1
  rw [lg4] at hs
  rw [lg4]
  replace hF : i_F h0 g4 q 2 4108 := hF.nw wg4
  replace h8 := wg4.2.1 _ _ h8
  replace hq := wg4.2.1 _ _ hq
  refine xT.s1 hM rfl rfl ?_
  refine xT.s1 hM rfl rfl ?_
  refine xT.s2 hM rfl rfl rfl ?_
  refine xT.aast (k := 0) hM rfl rfl rfl hs rfl (Or.inr (Or.inr ⟨_, 9, _, rfl, rfl, by decide⟩)) (by omega) (by omega) (fun j_5 ej5 u5 => ?_)
  replace h8 := (u5.2.1 _ (by omega)).trans h8
  replace hq := (u5.2.1 _ (by omega)).trans hq
  replace hs := u5.1
  replace hF := hF.up u5 (Or.inr (by omega))
  refine xT.s1 hM rfl rfl ?_
  refine xT.s1 hM rfl rfl ?_
  refine xT.s2 hM rfl rfl rfl ?_
  refine xT.aast (k := 1) hM rfl rfl rfl hs rfl (Or.inr (Or.inr ⟨_, 9, _, rfl, rfl, by decide⟩)) (by omega) (by omega) (fun j_6 ej6 u6 => ?_)
  replace h8 := (u6.2.1 _ (by omega)).trans h8
  replace hq := (u6.2.1 _ (by omega)).trans hq
  replace hs := u6.1
  replace hF := hF.up u6 (Or.inr (by omega))
  refine xT.s1 hM rfl rfl ?_
  refine xT.s1 hM rfl rfl ?_
  refine xT.s2 hM rfl rfl rfl ?_
  refine xT.aast (k := 2) hM rfl rfl rfl hs rfl (Or.inr (Or.inr ⟨_, 9, _, rfl, rfl, by decide⟩)) (by omega) (by omega) (fun j_7 ej7 u7 => ?_)
  replace h8 := (u7.2.1 _ (by omega)).trans h8
  replace hq := (u7.2.1 _ (by omega)).trans hq
  replace hs := u7.1
  replace hF := hF.up u7 (Or.inr (by omega))
  refine xT.s1 hM rfl rfl ?_
  refine xT.s1 hM rfl rfl ?_
  refine xT.s2 hM rfl rfl rfl ?_
  refine xT.aast (k := 3) hM rfl rfl rfl hs rfl (Or.inr (Or.inr ⟨_, 9, _, rfl, rfl, by decide⟩)) (by omega) (by omega) (fun j_8 ej8 u8 => ?_)
  replace h8 := (u8.2.1 _ (by omega)).trans h8
  replace hq := (u8.2.1 _ (by omega)).trans hq
  replace hs := u8.1
  replace hF := hF.up u8 (Or.inr (by omega))
  refine xT.s1 hM rfl rfl ?_
  refine xT.s1 hM rfl rfl ?_
  refine xT.s2 hM rfl rfl rfl ?_
  refine xT.aast (k := 4) hM rfl rfl rfl hs rfl (Or.inr (Or.inr ⟨_, 9, _, rfl, rfl, by decide⟩)) (by omega) (by omega) (fun j_9 ej9 u9 => ?_)
  replace h8 := (u9.2.1 _ (by omega)).trans h8
  replace hq := (u9.2.1 _ (by omega)).trans hq
  replace hs := u9.1
  replace hF := hF.up u9 (Or.inr (by omega))
  refine xT.s1 hM rfl rfl ?_
  refine xT.s1 hM rfl rfl ?_
  refine xT.s2 hM rfl rfl rfl ?_
  refine xT.aast (k := 5) hM rfl rfl rfl hs rfl (Or.inr (Or.inr ⟨_, 9, _, rfl, rfl, by decide⟩)) (by omega) (by omega) (fun j_10 ej10 u10 => ?_)
  replace h8 := (u10.2.1 _ (by omega)).trans h8
  replace hq := (u10.2.1 _ (by omega)).trans hq
  replace hs := u10.1
  replace hF := hF.up u10 (Or.inr (by omega))
  refine xT.s1 hM rfl rfl ?_
  refine xT.s1 hM rfl rfl ?_
  refine xT.s2 hM rfl rfl rfl ?_
  refine xT.aast (k := 6) hM rfl rfl rfl hs rfl (Or.inr (Or.inr ⟨_, 9, _, rfl, rfl, by decide⟩)) (by omega) (by omega) (fun j_11 ej11 u11 => ?_)
  replace h8 := (u11.2.1 _ (by omega)).trans h8
  replace hq := (u11.2.1 _ (by omega)).trans hq
  replace hs := u11.1
  replace hF := hF.up u11 (Or.inr (by omega))
  refine xT.s1 hM rfl rfl ?_
  refine xT.s1 hM rfl rfl ?_
  refine xT.s2 hM rfl rfl rfl ?_
  refine xT.aast (k := 7) hM rfl rfl rfl hs rfl (Or.inr (Or.inr ⟨_, 9, _, rfl, rfl, by decide⟩)) (by omega) (by omega) (fun j_12 ej12 u12 => ?_)
  replace h8 := (u12.2.1 _ (by omega)).trans h8
  replace hq := (u12.2.1 _ (by omega)).trans hq
  replace hs := u12.1
  replace hF := hF.up u12 (Or.inr (by omega))
  refine xT.s1 hM rfl rfl ?_
  refine xT.s1 hM rfl rfl ?_
  refine xT.s2 hM rfl rfl rfl ?_
  refine xT.aast (k := 8) hM rfl rfl rfl hs rfl (Or.inr (Or.inr ⟨_, 9, _, rfl, rfl, by decide⟩)) (by omega) (by omega) (fun j_13 ej13 u13 => ?_)
  replace h8 := (u13.2.1 _ (by omega)).trans h8
  replace hq := (u13.2.1 _ (by omega)).trans hq
  replace hs := u13.1
  replace hF := hF.up u13 (Or.inr (by omega))
  refine xT.s1 hM rfl rfl ?_
  refine xT.s1 hM rfl rfl ?_
  refine xT.s2 hM rfl rfl rfl ?_
  refine xT.aast (k := 9) hM rfl rfl rfl hs rfl (Or.inr (Or.inr ⟨_, 9, _, rfl, rfl, by decide⟩)) (by omega) (by omega) (fun j_14 ej14 u14 => ?_)
  replace h8 := (u14.2.1 _ (by omega)).trans h8
  replace hq := (u14.2.1 _ (by omega)).trans hq
  replace hs := u14.1
  replace hF := hF.up u14 (Or.inr (by omega))
  refine xT.s1 hM rfl rfl ?_
  refine xT.s1 hM rfl rfl ?_
  refine xT.s2 hM rfl rfl rfl ?_
  refine xT.aast (k := 10) hM rfl rfl rfl hs rfl (Or.inr (Or.inr ⟨_, 9, _, rfl, rfl, by decide⟩)) (by omega) (by omega) (fun j_15 ej15 u15 => ?_)
  replace h8 := (u15.2.1 _ (by omega)).trans h8
  replace hq := (u15.2.1 _ (by omega)).trans hq
  replace hs := u15.1
  replace hF := hF.up u15 (Or.inr (by omega))
  refine xT.s1 hM rfl rfl ?_
  refine xT.s1 hM rfl rfl ?_
  refine xT.s2 hM rfl rfl rfl ?_
  refine xT.aast (k := 11) hM rfl rfl rfl hs rfl (Or.inr (Or.inr ⟨_, 9, _, rfl, rfl, by decide⟩)) (by omega) (by omega) (fun j_16 ej16 u16 => ?_)
  replace h8 := (u16.2.1 _ (by omega)).trans h8
  replace hq := (u16.2.1 _ (by omega)).trans hq
  replace hs := u16.1
  replace hF := hF.up u16 (Or.inr (by omega))
  refine xT.put hM rfl rfl hq (Or.inl rfl) (by rw [lq]; decide) (rfl) (Or.inr ⟨rfl, rfl, rfl⟩) (fun j_17 F_17 eF17 eh17 up17 fb17 fo17 fl17 => ?_)
  replace h8 := (up17.2.1 _ (by omega)).trans h8
  replace hs := (up17.2.1 _ (by omega)).trans hs
  replace hq := up17.1
  replace lq := fl17.trans lq
  replace f0 := (fo17 0 (by decide)).trans f0
  replace f2 := (fo17 2 (by decide)).trans f2
  replace f6 := (fo17 6 (by decide)).trans f6
  replace f7 := (fo17 7 (by decide)).trans f7
  replace f8 := (fo17 8 (by decide)).trans f8
  replace f9 := (fo17 9 (by decide)).trans f9
  replace f10 := (fo17 10 (by decide)).trans f10
  replace f11 := (fo17 11 (by decide)).trans f11
  replace f12 := (fo17 12 (by decide)).trans f12
  replace f14 := (fo17 14 (by decide)).trans f14
  replace m1 := (fo17 1 (by decide)).trans m1
  replace m3 := (fo17 3 (by decide)).trans m3
  have m4 := fb17
  replace hF := hF.up up17 (Or.inl rfl)
  refine xT.s1 hM rfl rfl ?_
  refine xT.s1 hM rfl rfl ?_
  refine xT.newa (m := 35) hM rfl rfl rfl rfl (by omega) (by have := hF.2.1; omega) (by have := hF.2.2; omega) (fun g18 eg18 wg18 => ?_)
  have lg18 := hF.2.1
  have sg18 := hF.2.2
  have hk := wg18.1
  rw [lg18] at hk
  rw [lg18]
  replace hF : i_F h0 g18 q 3 4143 := hF.nw wg18
  replace h8 := wg18.2.1 _ _ h8
  replace hs := wg18.2.1 _ _ hs
  replace hq := wg18.2.1 _ _ hq
  refine xT.s1 hM rfl rfl ?_
  refine xT.s1 hM rfl rfl ?_
  refine xT.s2 hM rfl rfl rfl ?_
  refine xT.aast (k := 0) hM rfl rfl rfl hk rfl (Or.inr (Or.inr ⟨_, 9, _, rfl, rfl, by decide⟩)) (by omega) (by omega) (fun j_19 ej19 u19 => ?_)
  replace h8 := (u19.2.1 _ (by omega)).trans h8
  replace hs := (u19.2.1 _ (by omega)).trans hs
  replace hq := (u19.2.1 _ (by omega)).trans hq
  replace hk := u19.1
  replace hF := hF.up u19 (Or.inr (by omega))
  refine xT.s1 hM rfl rfl ?_
  refine xT.s1 hM rfl rfl ?_
  refine xT.s2 hM rfl rfl rfl ?_
  refine xT.aast (k := 1) hM rfl rfl rfl hk rfl (Or.inr (Or.inr ⟨_, 9, _, rfl, rfl, by decide⟩)) (by omega) (by omega) (fun j_20 ej20 u20 => ?_)
  replace h8 := (u20.2.1 _ (by omega)).trans h8
  replace hs := (u20.2.1 _ (by omega)).trans hs
  replace hq := (u20.2.1 _ (by omega)).trans hq
  replace hk := u20.1
  replace hF := hF.up u20 (Or.inr (by omega))
  refine xT.s1 hM rfl rfl ?_
  refine xT.s1 hM rfl rfl ?_
  refine xT.s2 hM rfl rfl rfl ?_
  refine xT.aast (k := 2) hM rfl rfl rfl hk rfl (Or.inr (Or.inr ⟨_, 9, _, rfl, rfl, by decide⟩)) (by omega) (by omega) (fun j_21 ej21 u21 => ?_)
  replace h8 := (u21.2.1 _ (by omega)).trans h8
  replace hs := (u21.2.1 _ (by omega)).trans hs
  replace hq := (u21.2.1 _ (by omega)).trans hq
  replace hk := u21.1
  replace hF := hF.up u21 (Or.inr (by omega))
  refine xT.s1 hM rfl rfl ?_
  refine xT.s1 hM rfl rfl ?_
  refine xT.s2 hM rfl rfl rfl ?_
  refine xT.aast (k := 3) hM rfl rfl rfl hk rfl (Or.inr (Or.inr ⟨_, 9, _, rfl, rfl, by decide⟩)) (by omega) (by omega) (fun j_22 ej22 u22 => ?_)
  replace h8 := (u22.2.1 _ (by omega)).trans h8
  replace hs := (u22.2.1 _ (by omega)).trans hs
  replace hq := (u22.2.1 _ (by omega)).trans hq
  replace hk := u22.1
  replace hF := hF.up u22 (Or.inr (by omega))
  refine xT.s1 hM rfl rfl ?_
  refine xT.s1 hM rfl rfl ?_
  refine xT.s2 hM rfl rfl rfl ?_
  refine xT.aast (k := 4) hM rfl rfl rfl hk rfl (Or.inr (Or.inr ⟨_, 9, _, rfl, rfl, by decide⟩)) (by omega) (by omega) (fun j_23 ej23 u23 => ?_)
  replace h8 := (u23.2.1 _ (by omega)).trans h8
  replace hs := (u23.2.1 _ (by omega)).trans hs
  replace hq := (u23.2.1 _ (by omega)).trans hq
  replace hk := u23.1
  replace hF := hF.up u23 (Or.inr (by omega))
  refine xT.s1 hM rfl rfl ?_
  refine xT.s1 hM rfl rfl ?_
  refine xT.s2 hM rfl rfl rfl ?_
  refine xT.aast (k := 5) hM rfl rfl rfl hk rfl (Or.inr (Or.inr ⟨_, 9, _, rfl, rfl, by decide⟩)) (by omega) (by omega) (fun j_24 ej24 u24 => ?_)
  replace h8 := (u24.2.1 _ (by omega)).trans h8
  replace hs := (u24.2.1 _ (by omega)).trans hs
  replace hq := (u24.2.1 _ (by omega)).trans hq
  replace hk := u24.1
  replace hF := hF.up u24 (Or.inr (by omega))
  refine xT.s1 hM rfl rfl ?_
  refine xT.s1 hM rfl rfl ?_
  refine xT.s2 hM rfl rfl rfl ?_
  refine xT.aast (k := 6) hM rfl rfl rfl hk rfl (Or.inr (Or.inr ⟨_, 9, _, rfl, rfl, by decide⟩)) (by omega) (by omega) (fun j_25 ej25 u25 => ?_)
  replace h8 := (u25.2.1 _ (by omega)).trans h8
  replace hs := (u25.2.1 _ (by omega)).trans hs
  replace hq := (u25.2.1 _ (by omega)).trans hq
  replace hk := u25.1
  replace hF := hF.up u25 (Or.inr (by omega))
  refine xT.s1 hM rfl rfl ?_
  refine xT.s1 hM rfl rfl ?_
  refine xT.s2 hM rfl rfl rfl ?_
  refine xT.aast (k := 7) hM rfl rfl rfl hk rfl (Or.inr (Or.inr ⟨_, 9, _, rfl, rfl, by decide⟩)) (by omega) (by omega) (fun j_26 ej26 u26 => ?_)
  replace h8 := (u26.2.1 _ (by omega)).trans h8
  replace hs := (u26.2.1 _ (by omega)).trans hs
  replace hq := (u26.2.1 _ (by omega)).trans hq
  replace hk := u26.1
  replace hF := hF.up u26 (Or.inr (by omega))
  refine xT.s1 hM rfl rfl ?_
  refine xT.s1 hM rfl rfl ?_
  refine xT.s2 hM rfl rfl rfl ?_
  refine xT.aast (k := 8) hM rfl rfl rfl hk rfl (Or.inr (Or.inr ⟨_, 9, _, rfl, rfl, by decide⟩)) (by omega) (by omega) (fun j_27 ej27 u27 => ?_)
  replace h8 := (u27.2.1 _ (by omega)).trans h8
  replace hs := (u27.2.1 _ (by omega)).trans hs
  replace hq := (u27.2.1 _ (by omega)).trans hq
  replace hk := u27.1
  replace hF := hF.up u27 (Or.inr (by omega))
  refine xT.s1 hM rfl rfl ?_
  refine xT.s1 hM rfl rfl ?_
  refine xT.s2 hM rfl rfl rfl ?_
  refine xT.aast (k := 9) hM rfl rfl rfl hk rfl (Or.inr (Or.inr ⟨_, 9, _, rfl, rfl, by decide⟩)) (by omega) (by omega) (fun j_28 ej28 u28 => ?_)
  replace h8 := (u28.2.1 _ (by omega)).trans h8
  replace hs := (u28.2.1 _ (by omega)).trans hs
  replace hq := (u28.2.1 _ (by omega)).trans hq
  replace hk := u28.1
  replace hF := hF.up u28 (Or.inr (by omega))
  refine xT.s1 hM rfl rfl ?_
  refine xT.s1 hM rfl rfl ?_
  refine xT.s2 hM rfl rfl rfl ?_
  refine xT.aast (k := 10) hM rfl rfl rfl hk rfl (Or.inr (Or.inr ⟨_, 9, _, rfl, rfl, by decide⟩)) (by omega) (by omega) (fun j_29 ej29 u29 => ?_)
  replace h8 := (u29.2.1 _ (by omega)).trans h8
  replace hs := (u29.2.1 _ (by omega)).trans hs
  replace hq := (u29.2.1 _ (by omega)).trans hq
  replace hk := u29.1
  replace hF := hF.up u29 (Or.inr (by omega))
  refine xT.s1 hM rfl rfl ?_
  refine xT.s1 hM rfl rfl ?_
  refine xT.s2 hM rfl rfl rfl ?_
  refine xT.aast (k := 11) hM rfl rfl rfl hk rfl (Or.inr (Or.inr ⟨_, 9, _, rfl, rfl, by decide⟩)) (by omega) (by omega) (fun j_30 ej30 u30 => ?_)
  replace h8 := (u30.2.1 _ (by omega)).trans h8
  replace hs := (u30.2.1 _ (by omega)).trans hs
  replace hq := (u30.2.1 _ (by omega)).trans hq
  replace hk := u30.1
  replace hF := hF.up u30 (Or.inr (by omega))
  refine xT.s1 hM rfl rfl ?_
  refine xT.s1 hM rfl rfl ?_
  refine xT.s2 hM rfl rfl rfl ?_
  refine xT.aast (k := 12) hM rfl rfl rfl hk rfl (Or.inr (Or.inr ⟨_, 9, _, rfl, rfl, by decide⟩)) (by omega) (by omega) (fun j_31 ej31 u31 => ?_)
  replace h8 := (u31.2.1 _ (by omega)).trans h8
  replace hs := (u31.2.1 _ (by omega)).trans hs
  replace hq := (u31.2.1 _ (by omega)).trans hq
  replace hk := u31.1
  replace hF := hF.up u31 (Or.inr (by omega))
  refine xT.s1 hM rfl rfl ?_
  refine xT.s1 hM rfl rfl ?_
  refine xT.s2 hM rfl rfl rfl ?_
  refine xT.aast (k := 13) hM rfl rfl rfl hk rfl (Or.inr (Or.inr ⟨_, 9, _, rfl, rfl, by decide⟩)) (by omega) (by omega) (fun j_32 ej32 u32 => ?_)
  replace h8 := (u32.2.1 _ (by omega)).trans h8
  replace hs := (u32.2.1 _ (by omega)).trans hs
  replace hq := (u32.2.1 _ (by omega)).trans hq
  replace hk := u32.1
  replace hF := hF.up u32 (Or.inr (by omega))
  refine xT.s1 hM rfl rfl ?_
  refine xT.s1 hM rfl rfl ?_
  refine xT.s2 hM rfl rfl rfl ?_
  refine xT.aast (k := 14) hM rfl rfl rfl hk rfl (Or.inr (Or.inr ⟨_, 9, _, rfl, rfl, by decide⟩)) (by omega) (by omega) (fun j_33 ej33 u33 => ?_)
  replace h8 := (u33.2.1 _ (by omega)).trans h8
  replace hs := (u33.2.1 _ (by omega)).trans hs
  replace hq := (u33.2.1 _ (by omega)).trans hq
  replace hk := u33.1
  replace hF := hF.up u33 (Or.inr (by omega))
  refine xT.s1 hM rfl rfl ?_
  refine xT.s1 hM rfl rfl ?_
  refine xT.s2 hM rfl rfl rfl ?_
  refine xT.aast (k := 15) hM rfl rfl rfl hk rfl (Or.inr (Or.inr ⟨_, 9, _, rfl, rfl, by decide⟩)) (by omega) (by omega) (fun j_34 ej34 u34 => ?_)
  replace h8 := (u34.2.1 _ (by omega)).trans h8
  replace hs := (u34.2.1 _ (by omega)).trans hs
  replace hq := (u34.2.1 _ (by omega)).trans hq
  replace hk := u34.1
  replace hF := hF.up u34 (Or.inr (by omega))
  refine xT.s1 hM rfl rfl ?_
  refine xT.s1 hM rfl rfl ?_
  refine xT.s2 hM rfl rfl rfl ?_
  refine xT.aast (k := 16) hM rfl rfl rfl hk rfl (Or.inr (Or.inr ⟨_, 9, _, rfl, rfl, by decide⟩)) (by omega) (by omega) (fun j_35 ej35 u35 => ?_)
  replace h8 := (u35.2.1 _ (by omega)).trans h8
  replace hs := (u35.2.1 _ (by omega)).trans hs
  replace hq := (u35.2.1 _ (by omega)).trans hq
  replace hk := u35.1
  replace hF := hF.up u35 (Or.inr (by omega))
  refine xT.s1 hM rfl rfl ?_
  refine xT.s1 hM rfl rfl ?_
  refine xT.s2 hM rfl rfl rfl ?_
  refine xT.aast (k := 17) hM rfl rfl rfl hk rfl (Or.inr (Or.inr ⟨_, 9, _, rfl, rfl, by decide⟩)) (by omega) (by omega) (fun j_36 ej36 u36 => ?_)
  replace h8 := (u36.2.1 _ (by omega)).trans h8
  replace hs := (u36.2.1 _ (by omega)).trans hs
  replace hq := (u36.2.1 _ (by omega)).trans hq
  replace hk := u36.1
  replace hF := hF.up u36 (Or.inr (by omega))
  refine xT.s1 hM rfl rfl ?_
  refine xT.s1 hM rfl rfl ?_
  refine xT.s2 hM rfl rfl rfl ?_
  refine xT.aast (k := 18) hM rfl rfl rfl hk rfl (Or.inr (Or.inr ⟨_, 9, _, rfl, rfl, by decide⟩)) (by omega) (by omega) (fun j_37 ej37 u37 => ?_)
  replace h8 := (u37.2.1 _ (by omega)).trans h8
  replace hs := (u37.2.1 _ (by omega)).trans hs
  replace hq := (u37.2.1 _ (by omega)).trans hq
  replace hk := u37.1
  replace hF := hF.up u37 (Or.inr (by omega))
  refine xT.s1 hM rfl rfl ?_
  refine xT.s1 hM rfl rfl ?_
  refine xT.s2 hM rfl rfl rfl ?_
  refine xT.aast (k := 19) hM rfl rfl rfl hk rfl (Or.inr (Or.inr ⟨_, 9, _, rfl, rfl, by decide⟩)) (by omega) (by omega) (fun j_38 ej38 u38 => ?_)
  replace h8 := (u38.2.1 _ (by omega)).trans h8
  replace hs := (u38.2.1 _ (by omega)).trans hs
  replace hq := (u38.2.1 _ (by omega)).trans hq
  replace hk := u38.1
  replace hF := hF.up u38 (Or.inr (by omega))
  refine xT.s1 hM rfl rfl ?_
  refine xT.s1 hM rfl rfl ?_
  refine xT.s2 hM rfl rfl rfl ?_
  refine xT.aast (k := 20) hM rfl rfl rfl hk rfl (Or.inr (Or.inr ⟨_, 9, _, rfl, rfl, by decide⟩)) (by omega) (by omega) (fun j_39 ej39 u39 => ?_)
  replace h8 := (u39.2.1 _ (by omega)).trans h8
  replace hs := (u39.2.1 _ (by omega)).trans hs
  replace hq := (u39.2.1 _ (by omega)).trans hq
  replace hk := u39.1
  replace hF := hF.up u39 (Or.inr (by omega))
  refine xT.s1 hM rfl rfl ?_
  refine xT.s1 hM rfl rfl ?_
  refine xT.s2 hM rfl rfl rfl ?_
  refine xT.aast (k := 21) hM rfl rfl rfl hk rfl (Or.inr (Or.inr ⟨_, 9, _, rfl, rfl, by decide⟩)) (by omega) (by omega) (fun j_40 ej40 u40 => ?_)
  replace h8 := (u40.2.1 _ (by omega)).trans h8
  replace hs := (u40.2.1 _ (by omega)).trans hs
  replace hq := (u40.2.1 _ (by omega)).trans hq
  replace hk := u40.1
  replace hF := hF.up u40 (Or.inr (by omega))
  refine xT.s1 hM rfl rfl ?_
  refine xT.s1 hM rfl rfl ?_
  refine xT.s2 hM rfl rfl rfl ?_
  refine xT.aast (k := 22) hM rfl rfl rfl hk rfl (Or.inr (Or.inr ⟨_, 9, _, rfl, rfl, by decide⟩)) (by omega) (by omega) (fun j_41 ej41 u41 => ?_)
  replace h8 := (u41.2.1 _ (by omega)).trans h8
  replace hs := (u41.2.1 _ (by omega)).trans hs
  replace hq := (u41.2.1 _ (by omega)).trans hq
  replace hk := u41.1
  replace hF := hF.up u41 (Or.inr (by omega))
  refine xT.s1 hM rfl rfl ?_
  refine xT.s1 hM rfl rfl ?_
  refine xT.s2 hM rfl rfl rfl ?_
  refine xT.aast (k := 23) hM rfl rfl rfl hk rfl (Or.inr (Or.inr ⟨_, 9, _, rfl, rfl, by decide⟩)) (by omega) (by omega) (fun j_42 ej42 u42 => ?_)
  replace h8 := (u42.2.1 _ (by omega)).trans h8
  replace hs := (u42.2.1 _ (by omega)).trans hs
  replace hq := (u42.2.1 _ (by omega)).trans hq
  replace hk := u42.1
  replace hF := hF.up u42 (Or.inr (by omega))
  refine xT.s1 hM rfl rfl ?_
  refine xT.s1 hM rfl rfl ?_
  refine xT.s2 hM rfl rfl rfl ?_
  refine xT.aast (k := 24) hM rfl rfl rfl hk rfl (Or.inr (Or.inr ⟨_, 9, _, rfl, rfl, by decide⟩)) (by omega) (by omega) (fun j_43 ej43 u43 => ?_)
  replace h8 := (u43.2.1 _ (by omega)).trans h8
  replace hs := (u43.2.1 _ (by omega)).trans hs
  replace hq := (u43.2.1 _ (by omega)).trans hq
  replace hk := u43.1
  replace hF := hF.up u43 (Or.inr (by omega))
  refine xT.s1 hM rfl rfl ?_
  refine xT.s1 hM rfl rfl ?_
  refine xT.s2 hM rfl rfl rfl ?_
  refine xT.aast (k := 25) hM rfl rfl rfl hk rfl (Or.inr (Or.inr ⟨_, 9, _, rfl, rfl, by decide⟩)) (by omega) (by omega) (fun j_44 ej44 u44 => ?_)
  replace h8 := (u44.2.1 _ (by omega)).trans h8
  replace hs := (u44.2.1 _ (by omega)).trans hs
  replace hq := (u44.2.1 _ (by omega)).trans hq
  replace hk := u44.1
  replace hF := hF.up u44 (Or.inr (by omega))
  refine xT.s1 hM rfl rfl ?_
  refine xT.s1 hM rfl rfl ?_
  refine xT.s2 hM rfl rfl rfl ?_
  refine xT.aast (k := 26) hM rfl rfl rfl hk rfl (Or.inr (Or.inr ⟨_, 9, _, rfl, rfl, by decide⟩)) (by omega) (by omega) (fun j_45 ej45 u45 => ?_)
  replace h8 := (u45.2.1 _ (by omega)).trans h8
  replace hs := (u45.2.1 _ (by omega)).trans hs
  replace hq := (u45.2.1 _ (by omega)).trans hq
  replace hk := u45.1
  replace hF := hF.up u45 (Or.inr (by omega))
  refine xT.s1 hM rfl rfl ?_
  refine xT.s1 hM rfl rfl ?_
  refine xT.s2 hM rfl rfl rfl ?_
  refine xT.aast (k := 27) hM rfl rfl rfl hk rfl (Or.inr (Or.inr ⟨_, 9, _, rfl, rfl, by decide⟩)) (by omega) (by omega) (fun j_46 ej46 u46 => ?_)
  replace h8 := (u46.2.1 _ (by omega)).trans h8
  replace hs := (u46.2.1 _ (by omega)).trans hs
  replace hq := (u46.2.1 _ (by omega)).trans hq
  replace hk := u46.1
  replace hF := hF.up u46 (Or.inr (by omega))
  refine xT.s1 hM rfl rfl ?_
  refine xT.s1 hM rfl rfl ?_
  refine xT.s2 hM rfl rfl rfl ?_
  refine xT.aast (k := 28) hM rfl rfl rfl hk rfl (Or.inr (Or.inr ⟨_, 9, _, rfl, rfl, by decide⟩)) (by omega) (by omega) (fun j_47 ej47 u47 => ?_)
  replace h8 := (u47.2.1 _ (by omega)).trans h8
  replace hs := (u47.2.1 _ (by omega)).trans hs
  replace hq := (u47.2.1 _ (by omega)).trans hq
  replace hk := u47.1
  replace hF := hF.up u47 (Or.inr (by omega))
  refine xT.s1 hM rfl rfl ?_
  refine xT.s1 hM rfl rfl ?_
  refine xT.s2 hM rfl rfl rfl ?_
  refine xT.aast (k := 29) hM rfl rfl rfl hk rfl (Or.inr (Or.inr ⟨_, 9, _, rfl, rfl, by decide⟩)) (by omega) (by omega) (fun j_48 ej48 u48 => ?_)
  replace h8 := (u48.2.1 _ (by omega)).trans h8
  replace hs := (u48.2.1 _ (by omega)).trans hs
  replace hq := (u48.2.1 _ (by omega)).trans hq
  replace hk := u48.1
  replace hF := hF.up u48 (Or.inr (by omega))
  refine xT.s1 hM rfl rfl ?_
  refine xT.s1 hM rfl rfl ?_
  refine xT.s2 hM rfl rfl rfl ?_
  refine xT.aast (k := 30) hM rfl rfl rfl hk rfl (Or.inr (Or.inr ⟨_, 9, _, rfl, rfl, by decide⟩)) (by omega) (by omega) (fun j_49 ej49 u49 => ?_)
  replace h8 := (u49.2.1 _ (by omega)).trans h8
  replace hs := (u49.2.1 _ (by omega)).trans hs
  replace hq := (u49.2.1 _ (by omega)).trans hq
  replace hk := u49.1
  replace hF := hF.up u49 (Or.inr (by omega))
  refine xT.s1 hM rfl rfl ?_
  refine xT.s1 hM rfl rfl ?_
  refine xT.s2 hM rfl rfl rfl ?_
  refine xT.aast (k := 31) hM rfl rfl rfl hk rfl (Or.inr (Or.inr ⟨_, 9, _, rfl, rfl, by decide⟩)) (by omega) (by omega) (fun j_50 ej50 u50 => ?_)
  replace h8 := (u50.2.1 _ (by omega)).trans h8
  replace hs := (u50.2.1 _ (by omega)).trans hs
  replace hq := (u50.2.1 _ (by omega)).trans hq
  replace hk := u50.1
  replace hF := hF.up u50 (Or.inr (by omega))
  refine xT.s1 hM rfl rfl ?_
  refine xT.s1 hM rfl rfl ?_
  refine xT.s2 hM rfl rfl rfl ?_
  refine xT.aast (k := 32) hM rfl rfl rfl hk rfl (Or.inr (Or.inr ⟨_, 9, _, rfl, rfl, by decide⟩)) (by omega) (by omega) (fun j_51 ej51 u51 => ?_)
  replace h8 := (u51.2.1 _ (by omega)).trans h8
  replace hs := (u51.2.1 _ (by omega)).trans hs
  replace hq := (u51.2.1 _ (by omega)).trans hq
  replace hk := u51.1
  replace hF := hF.up u51 (Or.inr (by omega))
  refine xT.s1 hM rfl rfl ?_
  refine xT.s1 hM rfl rfl ?_
  refine xT.s2 hM rfl rfl rfl ?_
  refine xT.aast (k := 33) hM rfl rfl rfl hk rfl (Or.inr (Or.inr ⟨_, 9, _, rfl, rfl, by decide⟩)) (by omega) (by omega) (fun j_52 ej52 u52 => ?_)
  replace h8 := (u52.2.1 _ (by omega)).trans h8
  replace hs := (u52.2.1 _ (by omega)).trans hs
  replace hq := (u52.2.1 _ (by omega)).trans hq
  replace hk := u52.1
  replace hF := hF.up u52 (Or.inr (by omega))
  refine xT.s1 hM rfl rfl ?_
  refine xT.s1 hM rfl rfl ?_
  refine xT.s2 hM rfl rfl rfl ?_
  refine xT.aast (k := 34) hM rfl rfl rfl hk rfl (Or.inr (Or.inr ⟨_, 9, _, rfl, rfl, by decide⟩)) (by omega) (by omega) (fun j_53 ej53 u53 => ?_)
  replace h8 := (u53.2.1 _ (by omega)).trans h8
  replace hs := (u53.2.1 _ (by omega)).trans hs
  replace hq := (u53.2.1 _ (by omega)).trans hq
  replace hk := u53.1
  replace hF := hF.up u53 (Or.inr (by omega))
  refine xT.put hM rfl rfl hq (Or.inl rfl) (by rw [lq]; decide) (rfl) (Or.inr ⟨rfl, rfl, rfl⟩) (fun j_54 F_54 eF54 eh54 up54 fb54 fo54 fl54 => ?_)
  replace h8 := (up54.2.1 _ (by omega)).trans h8
  replace hs := (up54.2.1 _ (by omega)).trans hs
  replace hk := (up54.2.1 _ (by omega)).trans hk
  replace hq := up54.1
  replace lq := fl54.trans lq
  replace f0 := (fo54 0 (by decide)).trans f0
  replace f2 := (fo54 2 (by decide)).trans f2
  replace f6 := (fo54 6 (by decide)).trans f6
  replace f7 := (fo54 7 (by decide)).trans f7
  replace f8 := (fo54 8 (by decide)).trans f8
  replace f9 := (fo54 9 (by decide)).trans f9
  replace f10 := (fo54 10 (by decide)).trans f10
  replace f11 := (fo54 11 (by decide)).trans f11
  replace f12 := (fo54 12 (by decide)).trans f12
  replace f14 := (fo54 14 (by decide)).trans f14
  replace m1 := (fo54 1 (by decide)).trans m1
  replace m3 := (fo54 3 (by decide)).trans m3
  replace m4 := (fo54 4 (by decide)).trans m4
  have m5 := fb54
  replace hF := hF.up up54 (Or.inl rfl)
  refine xT.s1 hM rfl rfl ?_
  refine xT.s1 hM rfl rfl ?_
  refine xT.newa (m := 64) hM rfl rfl rfl rfl (by omega) (by have := hF.2.1; omega) (by have := hF.2.2; omega) (fun g55 eg55 wg55 => ?_)
  have lg55 := hF.2.1
  have sg55 := hF.2.2
  have r0 := wg55.1
  rw [lg55] at r0
  rw [lg55]
  replace hF : i_F h0 g55 q 4 4207 := hF.nw wg55
  replace h8 := wg55.2.1 _ _ h8
  replace hs := wg55.2.1 _ _ hs
  replace hk := wg55.2.1 _ _ hk
  replace hq := wg55.2.1 _ _ hq
  refine xT.put hM rfl rfl hq (Or.inl rfl) (by rw [lq]; decide) (rfl) (Or.inl rfl) (fun j_56 F_56 eF56 eh56 up56 fb56 fo56 fl56 => ?_)
  replace h8 := (up56.2.1 _ (by omega)).trans h8
  replace hs := (up56.2.1 _ (by omega)).trans hs
  replace hk := (up56.2.1 _ (by omega)).trans hk
  replace r0 := (up56.2.1 _ (by omega)).trans r0
  replace hq := up56.1
  replace lq := fl56.trans lq
  replace f0 := (fo56 0 (by decide)).trans f0
  replace f2 := (fo56 2 (by decide)).trans f2
  replace f6 := (fo56 6 (by decide)).trans f6
  replace f7 := (fo56 7 (by decide)).trans f7
  replace f8 := (fo56 8 (by decide)).trans f8
  replace f9 := (fo56 9 (by decide)).trans f9
  replace f10 := (fo56 10 (by decide)).trans f10
  replace f11 := (fo56 11 (by decide)).trans f11
  replace f12 := (fo56 12 (by decide)).trans f12
  replace f14 := (fo56 14 (by decide)).trans f14
  replace m1 := (fo56 1 (by decide)).trans m1
  replace m3 := (fo56 3 (by decide)).trans m3
  replace m4 := (fo56 4 (by decide)).trans m4
  replace m5 := (fo56 5 (by decide)).trans m5
  have m15 := fb56
  replace hF := hF.up up56 (Or.inl rfl)
  refine xT.s1 hM rfl rfl ?_
  refine xT.s1 hM rfl rfl ?_
  refine xT.newi (m := 64) hM rfl (by omega) (by have := hF.2.1; omega) (by have := hF.2.2; omega) (fun g57 eg57 wg57 => ?_)
  have lg57 := hF.2.1
  have sg57 := hF.2.2
  have r1 := wg57.1
  rw [lg57] at r1
  rw [lg57]
  replace hF : i_F h0 g57 q 5 4271 := hF.nw wg57
  replace h8 := wg57.2.1 _ _ h8
  replace hs := wg57.2.1 _ _ hs
  replace hk := wg57.2.1 _ _ hk
  replace r0 := wg57.2.1 _ _ r0
  replace hq := wg57.2.1 _ _ hq
  refine xT.put hM rfl rfl hq (Or.inl rfl) (by rw [lq]; decide) (rfl) (Or.inl rfl) (fun j_58 F_58 eF58 eh58 up58 fb58 fo58 fl58 => ?_)
  replace h8 := (up58.2.1 _ (by omega)).trans h8
  replace hs := (up58.2.1 _ (by omega)).trans hs
  replace hk := (up58.2.1 _ (by omega)).trans hk
  replace r0 := (up58.2.1 _ (by omega)).trans r0
  replace r1 := (up58.2.1 _ (by omega)).trans r1
  replace hq := up58.1
  replace lq := fl58.trans lq
  replace f0 := (fo58 0 (by decide)).trans f0
  replace f2 := (fo58 2 (by decide)).trans f2
  replace f6 := (fo58 6 (by decide)).trans f6
  replace f7 := (fo58 7 (by decide)).trans f7
  replace f8 := (fo58 8 (by decide)).trans f8
  replace f9 := (fo58 9 (by decide)).trans f9
  replace f10 := (fo58 10 (by decide)).trans f10
  replace f11 := (fo58 11 (by decide)).trans f11
  replace f12 := (fo58 12 (by decide)).trans f12
  replace f14 := (fo58 14 (by decide)).trans f14
  replace m1 := (fo58 1 (by decide)).trans m1
  replace m3 := (fo58 3 (by decide)).trans m3
  replace m4 := (fo58 4 (by decide)).trans m4
  replace m5 := (fo58 5 (by decide)).trans m5
  replace m15 := (fo58 15 (by decide)).trans m15
  have m16 := fb58
  replace hF := hF.up up58 (Or.inl rfl)
  refine xT.s1 hM rfl rfl ?_
  refine xT.s1 hM rfl rfl ?_
  refine xT.newi (m := 64) hM rfl (by omega) (by have := hF.2.1; omega) (by have := hF.2.2; omega) (fun g59 eg59 wg59 => ?_)
  have lg59 := hF.2.1
  have sg59 := hF.2.2
  have r2 := wg59.1
  rw [lg59] at r2
  rw [lg59]
  replace hF : i_F h0 g59 q 6 4335 := hF.nw wg59
  replace h8 := wg59.2.1 _ _ h8
  replace hs := wg59.2.1 _ _ hs
  replace hk := wg59.2.1 _ _ hk
  replace r0 := wg59.2.1 _ _ r0
  replace r1 := wg59.2.1 _ _ r1
  replace hq := wg59.2.1 _ _ hq
  refine xT.put hM rfl rfl hq (Or.inl rfl) (by rw [lq]; decide) (rfl) (Or.inl rfl) (fun j_60 F_60 eF60 eh60 up60 fb60 fo60 fl60 => ?_)
  replace h8 := (up60.2.1 _ (by omega)).trans h8
  replace hs := (up60.2.1 _ (by omega)).trans hs
  replace hk := (up60.2.1 _ (by omega)).trans hk
  replace r0 := (up60.2.1 _ (by omega)).trans r0
  replace r1 := (up60.2.1 _ (by omega)).trans r1
  replace r2 := (up60.2.1 _ (by omega)).trans r2
  replace hq := up60.1
  replace lq := fl60.trans lq
  replace f0 := (fo60 0 (by decide)).trans f0
  replace f2 := (fo60 2 (by decide)).trans f2
  replace f6 := (fo60 6 (by decide)).trans f6
  replace f7 := (fo60 7 (by decide)).trans f7
  replace f8 := (fo60 8 (by decide)).trans f8
  replace f9 := (fo60 9 (by decide)).trans f9
  replace f10 := (fo60 10 (by decide)).trans f10
  replace f11 := (fo60 11 (by decide)).trans f11
  replace f12 := (fo60 12 (by decide)).trans f12
  replace f14 := (fo60 14 (by decide)).trans f14
  replace m1 := (fo60 1 (by decide)).trans m1
  replace m3 := (fo60 3 (by decide)).trans m3
  replace m4 := (fo60 4 (by decide)).trans m4
  replace m5 := (fo60 5 (by decide)).trans m5
  replace m15 := (fo60 15 (by decide)).trans m15
  replace m16 := (fo60 16 (by decide)).trans m16
  have m17 := fb60
  replace hF := hF.up up60 (Or.inl rfl)
  refine xT.s1 hM rfl rfl ?_
  refine xT.s1 hM rfl rfl ?_
  refine xT.newi (m := 64) hM rfl (by omega) (by have := hF.2.1; omega) (by have := hF.2.2; omega) (fun g61 eg61 wg61 => ?_)
  have lg61 := hF.2.1
  have sg61 := hF.2.2
  have r3 := wg61.1
  rw [lg61] at r3
  rw [lg61]
  replace hF : i_F h0 g61 q 7 4399 := hF.nw wg61
  replace h8 := wg61.2.1 _ _ h8
  replace hs := wg61.2.1 _ _ hs
  replace hk := wg61.2.1 _ _ hk
  replace r0 := wg61.2.1 _ _ r0
  replace r1 := wg61.2.1 _ _ r1
  replace r2 := wg61.2.1 _ _ r2
  replace hq := wg61.2.1 _ _ hq
  refine xT.put hM rfl rfl hq (Or.inl rfl) (by rw [lq]; decide) (rfl) (Or.inl rfl) (fun j_62 F_62 eF62 eh62 up62 fb62 fo62 fl62 => ?_)
  replace h8 := (up62.2.1 _ (by omega)).trans h8
  replace hs := (up62.2.1 _ (by omega)).trans hs
  replace hk := (up62.2.1 _ (by omega)).trans hk
  replace r0 := (up62.2.1 _ (by omega)).trans r0
  replace r1 := (up62.2.1 _ (by omega)).trans r1
  replace r2 := (up62.2.1 _ (by omega)).trans r2
  replace r3 := (up62.2.1 _ (by omega)).trans r3
  replace hq := up62.1
  replace lq := fl62.trans lq
  replace f0 := (fo62 0 (by decide)).trans f0
  replace f2 := (fo62 2 (by decide)).trans f2
  replace f6 := (fo62 6 (by decide)).trans f6
  replace f7 := (fo62 7 (by decide)).trans f7
  replace f8 := (fo62 8 (by decide)).trans f8
  replace f9 := (fo62 9 (by decide)).trans f9
  replace f10 := (fo62 10 (by decide)).trans f10
  replace f11 := (fo62 11 (by decide)).trans f11
  replace f12 := (fo62 12 (by decide)).trans f12
  replace f14 := (fo62 14 (by decide)).trans f14
  replace m1 := (fo62 1 (by decide)).trans m1
  replace m3 := (fo62 3 (by decide)).trans m3
  replace m4 := (fo62 4 (by decide)).trans m4
  replace m5 := (fo62 5 (by decide)).trans m5
  replace m15 := (fo62 15 (by decide)).trans m15
  replace m16 := (fo62 16 (by decide)).trans m16
  replace m17 := (fo62 17 (by decide)).trans m17
  have m18 := fb62
  replace hF := hF.up up62 (Or.inl rfl)
  refine xT.s1 hM rfl rfl ?_
  refine xT.s1 hM rfl rfl ?_
  refine xT.newi (m := 64) hM rfl (by omega) (by have := hF.2.1; omega) (by have := hF.2.2; omega) (fun g63 eg63 wg63 => ?_)
  have lg63 := hF.2.1
  have sg63 := hF.2.2
  have r4 := wg63.1
  rw [lg63] at r4
  rw [lg63]
  replace hF : i_F h0 g63 q 8 4463 := hF.nw wg63
  replace h8 := wg63.2.1 _ _ h8
  replace hs := wg63.2.1 _ _ hs
  replace hk := wg63.2.1 _ _ hk
  replace r0 := wg63.2.1 _ _ r0
  replace r1 := wg63.2.1 _ _ r1
  replace r2 := wg63.2.1 _ _ r2
  replace r3 := wg63.2.1 _ _ r3
  replace hq := wg63.2.1 _ _ hq
  refine xT.put hM rfl rfl hq (Or.inl rfl) (by rw [lq]; decide) (rfl) (Or.inl rfl) (fun j_64 F_64 eF64 eh64 up64 fb64 fo64 fl64 => ?_)
  replace h8 := (up64.2.1 _ (by omega)).trans h8
  replace hs := (up64.2.1 _ (by omega)).trans hs
  replace hk := (up64.2.1 _ (by omega)).trans hk
  replace r0 := (up64.2.1 _ (by omega)).trans r0
  replace r1 := (up64.2.1 _ (by omega)).trans r1
  replace r2 := (up64.2.1 _ (by omega)).trans r2
  replace r3 := (up64.2.1 _ (by omega)).trans r3
  replace r4 := (up64.2.1 _ (by omega)).trans r4
  replace hq := up64.1
  replace lq := fl64.trans lq
  replace f0 := (fo64 0 (by decide)).trans f0
  replace f2 := (fo64 2 (by decide)).trans f2
  replace f6 := (fo64 6 (by decide)).trans f6
  replace f7 := (fo64 7 (by decide)).trans f7
  replace f8 := (fo64 8 (by decide)).trans f8
  replace f9 := (fo64 9 (by decide)).trans f9
  replace f10 := (fo64 10 (by decide)).trans f10
  replace f11 := (fo64 11 (by decide)).trans f11
  replace f12 := (fo64 12 (by decide)).trans f12
  replace f14 := (fo64 14 (by decide)).trans f14
  replace m1 := (fo64 1 (by decide)).trans m1
  replace m3 := (fo64 3 (by decide)).trans m3
  replace m4 := (fo64 4 (by decide)).trans m4
  replace m5 := (fo64 5 (by decide)).trans m5
  replace m15 := (fo64 15 (by decide)).trans m15
  replace m16 := (fo64 16 (by decide)).trans m16
  replace m17 := (fo64 17 (by decide)).trans m17
  replace m18 := (fo64 18 (by decide)).trans m18
  have m19 := fb64
  replace hF := hF.up up64 (Or.inl rfl)
  refine xT.s1 hM rfl rfl ?_
  refine xT.s1 hM rfl rfl ?_
  refine xT.newa (m := 64) hM rfl rfl rfl rfl (by omega) (by have := hF.2.1; omega) (by have := hF.2.2; omega) (fun g65 eg65 wg65 => ?_)
  have lg65 := hF.2.1
  have sg65 := hF.2.2
  have r5 := wg65.1
  rw [lg65] at r5
  rw [lg65]
  replace hF : i_F h0 g65 q 9 4527 := hF.nw wg65
  replace h8 := wg65.2.1 _ _ h8
  replace hs := wg65.2.1 _ _ hs
  replace hk := wg65.2.1 _ _ hk
  replace r0 := wg65.2.1 _ _ r0
  replace r1 := wg65.2.1 _ _ r1
  replace r2 := wg65.2.1 _ _ r2
  replace r3 := wg65.2.1 _ _ r3
  replace r4 := wg65.2.1 _ _ r4
  replace hq := wg65.2.1 _ _ hq
  refine xT.put hM rfl rfl hq (Or.inl rfl) (by rw [lq]; decide) (rfl) (Or.inl rfl) (fun j_66 F_66 eF66 eh66 up66 fb66 fo66 fl66 => ?_)
  replace h8 := (up66.2.1 _ (by omega)).trans h8
  replace hs := (up66.2.1 _ (by omega)).trans hs
  replace hk := (up66.2.1 _ (by omega)).trans hk
  replace r0 := (up66.2.1 _ (by omega)).trans r0
  replace r1 := (up66.2.1 _ (by omega)).trans r1
  replace r2 := (up66.2.1 _ (by omega)).trans r2
  replace r3 := (up66.2.1 _ (by omega)).trans r3
  replace r4 := (up66.2.1 _ (by omega)).trans r4
  replace r5 := (up66.2.1 _ (by omega)).trans r5
  replace hq := up66.1
  replace lq := fl66.trans lq
  replace f0 := (fo66 0 (by decide)).trans f0
  replace f2 := (fo66 2 (by decide)).trans f2
  replace f6 := (fo66 6 (by decide)).trans f6
  replace f7 := (fo66 7 (by decide)).trans f7
  replace f8 := (fo66 8 (by decide)).trans f8
  replace f9 := (fo66 9 (by decide)).trans f9
  replace f10 := (fo66 10 (by decide)).trans f10
  replace f11 := (fo66 11 (by decide)).trans f11
  replace f12 := (fo66 12 (by decide)).trans f12
  replace f14 := (fo66 14 (by decide)).trans f14
  replace m1 := (fo66 1 (by decide)).trans m1
  replace m3 := (fo66 3 (by decide)).trans m3
  replace m4 := (fo66 4 (by decide)).trans m4
  replace m5 := (fo66 5 (by decide)).trans m5
  replace m15 := (fo66 15 (by decide)).trans m15
  replace m16 := (fo66 16 (by decide)).trans m16
  replace m17 := (fo66 17 (by decide)).trans m17
  replace m18 := (fo66 18 (by decide)).trans m18
  replace m19 := (fo66 19 (by decide)).trans m19
  have m20 := fb66
  replace hF := hF.up up66 (Or.inl rfl)
  have hC : m_C e j_66 F_66 := by
    refine ⟨_, _, _, _, m4, m5, hs, hk, ?_, ?_⟩
    · intro k hk
      match k, hk with
      | 0, _ => exact ⟨_, by decide, by decide, _, _, _, rfl, rfl, rfl, by decide⟩
      | 1, _ => exact ⟨_, by decide, by decide, _, _, _, rfl, rfl, rfl, by decide⟩
      | 2, _ => exact ⟨_, by decide, by decide, _, _, _, rfl, rfl, rfl, by decide⟩
      | 3, _ => exact ⟨_, by decide, by decide, _, _, _, rfl, rfl, rfl, by decide⟩
      | 4, _ => exact ⟨_, by decide, by decide, _, _, _, rfl, rfl, rfl, by decide⟩
      | 5, _ => exact ⟨_, by decide, by decide, _, _, _, rfl, rfl, rfl, by decide⟩
      | 6, _ => exact ⟨_, by decide, by decide, _, _, _, rfl, rfl, rfl, by decide⟩
      | 7, _ => exact ⟨_, by decide, by decide, _, _, _, rfl, rfl, rfl, by decide⟩
      | 8, _ => exact ⟨_, by decide, by decide, _, _, _, rfl, rfl, rfl, by decide⟩
      | 9, _ => exact ⟨_, by decide, by decide, _, _, _, rfl, rfl, rfl, by decide⟩
      | 10, _ => exact ⟨_, by decide, by decide, _, _, _, rfl, rfl, rfl, by decide⟩
      | 11, _ => exact ⟨_, by decide, by decide, _, _, _, rfl, rfl, rfl, by decide⟩
      | k + 12, hk => omega
    · intro k hk
      match k, hk with
      | 0, _ => exact ⟨_, _, _, _, rfl, rfl, rfl, by decide⟩
      | 1, _ => exact ⟨_, _, _, _, rfl, rfl, rfl, by decide⟩
      | 2, _ => exact ⟨_, _, _, _, rfl, rfl, rfl, by decide⟩
      | 3, _ => exact ⟨_, _, _, _, rfl, rfl, rfl, by decide⟩
      | 4, _ => exact ⟨_, _, _, _, rfl, rfl, rfl, by decide⟩
      | 5, _ => exact ⟨_, _, _, _, rfl, rfl, rfl, by decide⟩
      | 6, _ => exact ⟨_, _, _, _, rfl, rfl, rfl, by decide⟩
      | 7, _ => exact ⟨_, _, _, _, rfl, rfl, rfl, by decide⟩
      | 8, _ => exact ⟨_, _, _, _, rfl, rfl, rfl, by decide⟩
      | 9, _ => exact ⟨_, _, _, _, rfl, rfl, rfl, by decide⟩
      | 10, _ => exact ⟨_, _, _, _, rfl, rfl, rfl, by decide⟩
      | 11, _ => exact ⟨_, _, _, _, rfl, rfl, rfl, by decide⟩
      | 12, _ => exact ⟨_, _, _, _, rfl, rfl, rfl, by decide⟩
      | 13, _ => exact ⟨_, _, _, _, rfl, rfl, rfl, by decide⟩
      | 14, _ => exact ⟨_, _, _, _, rfl, rfl, rfl, by decide⟩
      | 15, _ => exact ⟨_, _, _, _, rfl, rfl, rfl, by decide⟩
      | 16, _ => exact ⟨_, _, _, _, rfl, rfl, rfl, by decide⟩
      | 17, _ => exact ⟨_, _, _, _, rfl, rfl, rfl, by decide⟩
      | 18, _ => exact ⟨_, _, _, _, rfl, rfl, rfl, by decide⟩
      | 19, _ => exact ⟨_, _, _, _, rfl, rfl, rfl, by decide⟩
      | 20, _ => exact ⟨_, _, _, _, rfl, rfl, rfl, by decide⟩
      | 21, _ => exact ⟨_, _, _, _, rfl, rfl, rfl, by decide⟩
      | 22, _ => exact ⟨_, _, _, _, rfl, rfl, rfl, by decide⟩
      | 23, _ => exact ⟨_, _, _, _, rfl, rfl, rfl, by decide⟩
      | 24, _ => exact ⟨_, _, _, _, rfl, rfl, rfl, by decide⟩
      | 25, _ => exact ⟨_, _, _, _, rfl, rfl, rfl, by decide⟩
      | 26, _ => exact ⟨_, _, _, _, rfl, rfl, rfl, by decide⟩
      | 27, _ => exact ⟨_, _, _, _, rfl, rfl, rfl, by decide⟩
      | 28, _ => exact ⟨_, _, _, _, rfl, rfl, rfl, by decide⟩
      | 29, _ => exact ⟨_, _, _, _, rfl, rfl, rfl, by decide⟩
      | 30, _ => exact ⟨_, _, _, _, rfl, rfl, rfl, by decide⟩
      | 31, _ => exact ⟨_, _, _, _, rfl, rfl, rfl, by decide⟩
      | 32, _ => exact ⟨_, _, _, _, rfl, rfl, rfl, by decide⟩
      | 33, _ => exact ⟨_, _, _, _, rfl, rfl, rfl, by decide⟩
      | 34, _ => exact ⟨_, _, _, _, rfl, rfl, rfl, by decide⟩
      | k + 35, hk => omega
  refine xT.ret hM rfl rfl rfl rfl (⟨_, rfl, rfl, ⟨_, ⟨⟨0, 0, 0, .null, ⟨⟨hq, lq, m1, f2, f6, f7, ⟨_, f8⟩, ⟨_, f9⟩, f10, f11, h8, by omega⟩, fun _ _ => rfl, fun _ _ hk _ => hk⟩, Or.inl rfl⟩, hC, ⟨⟨_, f0⟩, ⟨_, m3⟩, ⟨_, f12⟩⟩, ⟨⟨hq, lq, f14⟩, ⟨m15, m16, m17, m18, m19, m20⟩, ⟨r0, r1, r2, r3, r4, r5⟩, ⟨by dsimp only; omega, by dsimp only; omega, by dsimp only; omega, by dsimp only; omega, by dsimp only; omega, by dsimp only; omega⟩, by omega, by omega, by omega⟩, fun i hi => absurd hi (Nat.not_lt_zero i), fun i hi => absurd hi (Nat.not_lt_zero i), by omega, by omega, by omega, by rw [hF.2.1]; omega, ?_⟩⟩, hF⟩)
  intro x hx
  show x ≠ h0.length + 8
  rcases hx with hx | hx
  · rw [m4] at hx; cases hx; omega
  · rw [m5] at hx; cases hx; omega
end XIO
