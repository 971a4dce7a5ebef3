/-! the class: its object; nodes -/
theorem xT.th {e : xE} {d mi pc len tg : Nat} {L : ab_L} {S : List Value} {h : ab_H} {Q : ab_O → ab_H → Prop} {M : ab_M} {i : Instr} (hM : (x_mt e.1)[mi]? = some M) (hf : ab_fe M pc = some (i, len, tg)) (h1 : ab_s1 (my_l M) i pc tg L S = none) (h2' : ab_s2 x_cl x_ct x_cd x_aty (x_oa e.2.1 e.2.2.1) e.2.2.2.1 e.2.2.2.2.1 (my_p M) ((my_y M).name == "<init>") i pc S h = none) (h3 : ab_rt M i S = none) (h4 : ab_sw pc i S = none) (h5 : ab_ob (my_p M) i S = none) (h6 : ab_call x_cl x_oo (x_mt e.1) (my_p M) i S h = none) {ce x1 x2 x3 : Nat} (h7 : ab_th M pc = some (ce, x1, x2, x3)) (hS : S = [])
    (hr : h.length + 1 ≤ e.2.2.2.1 ∧ ab_sz h + 6 ≤ e.2.2.2.2.1) (q : Q (.inr (ce, h.length)) (h ++ [.inr (ce, List.replicate 6 .null)])) : xT e d mi pc L S h Q := by
  refine ⟨_, _, ⟨1, fun n => ?_⟩, q⟩
  show ab_run x_cl x_ct x_cd x_aty (x_oa e.2.1 e.2.2.1) x_oo x_sb e.2.2.2.1 e.2.2.2.2.1 x_nc (x_mt e.1) (n + 1) d mi pc L S h = _
  rw [ab_run, hM]
  simp only [hf, h1, h2', h3, h4, h5, h6, h7]
  rw [if_pos ⟨hr.1, hr.2, hS⟩]
/-- a node's fields -/
def c_nt (G : List Value) : Prop := G.length = 7 ∧ (∃ x, G[0]? = some (.int x)) ∧ (∃ x, G[1]? = some (.int x)) ∧ (∃ x, G[2]? = some (.int x)) ∧ (∃ x, G[3]? = some (.int x)) ∧ (∃ x, G[4]? = some (.long x)) ∧ (∃ x, G[5]? = some (.int x)) ∧ ∃ a, G[6]? = some (.int (nI a)) ∧ a < 2 ^ 31
/-- all nodes are whole -/
def c_TY (h : ab_H) : Prop := ∀ (k : Nat) (G : List Value), h[k]? = some (.inr (10, G)) → c_nt G
/-- the class's object at q0: its tape, its list; the token here and the one ahead -/
def c_S (h : ab_H) (q0 qt qb ql th ta qa qe : Nat) (gb : Nat → Int32) (len cap sz : Nat) (kh : Int32) (bh eh : Nat) (ka : Int32) (ba ea : Nat) : Prop := (∃ F0, h[q0]? = some (.inr (0, F0)) ∧ F0.length = 3 ∧ F0[0]? = some (.ref qt) ∧ F0[1]? = some (.ref qa) ∧ ∃ z, F0[2]? = some (.int z)) ∧ (∃ Ft gl kp, c_T h qt qb ql th ta Ft gb gl len kp) ∧ c_K h th kh bh eh ∧ c_K h ta ka ba ea ∧ th ≠ ta ∧ (∃ Fa ef, c_L h qa Fa qe cap sz ef) ∧ c_TY h
/-- cells that the class leaves alone -/
def c_fr (h h' : ab_H) (qb ql : Nat) : Prop := ∀ (k : Nat) (x : ab_E), h[k]? = some x → k ≠ qb → k ≠ ql → (∀ ci G, x = .inr (ci, G) → ci ≠ 0 ∧ ci ≠ 1 ∧ ci ≠ 2 ∧ ci ≠ 4 ∧ ci ≠ 10) → (∀ n f, x ≠ .inl (5, n, f)) → h'[k]? = some x
theorem c_fr.tr {h h1 h2 : ab_H} {qb ql : Nat} (a : c_fr h h1 qb ql) (b : c_fr h1 h2 qb ql) : c_fr h h2 qb ql := fun k x hk n1 n2 n3 n4 => b k x (a k x hk n1 n2 n3 n4) n1 n2 n3 n4
theorem c_fr.rf (h : ab_H) (qb ql : Nat) : c_fr h h qb ql := fun _ _ hk _ _ _ _ => hk
section XCS
variable {e : xE} {d q0 qt qb ql th ta qa qe len cap sz bh eh ba ea b : Nat} {gb : Nat → Int32} {h : ab_H} {kh ka : Int32} {G : List Value}
theorem c_begins {c : Int32} : xT e d 112 0 [(0, .int c)] [] h (fun o h' => ∃ v, o = .inl v ∧ (∃ y : Int32, v = some (.int y) ∧ (¬ y = 0 → c ≠ 26 ∧ c ≠ 27)) ∧ h' = h) := by
  have hM : (x_mt e.1)[112]? = some xM112 := rfl
  refine xT.s1 hM rfl rfl ?_
  refine xT.s1 hM rfl rfl ?_
  refine xT.s1 hM rfl rfl ?_
  refine xT.br (fun c0 => ?_) (fun c0 => ?_)
  · refine xT.s1 hM rfl rfl ?_
    refine xT.s1 hM rfl rfl ?_
    refine xT.s1 hM rfl rfl ?_
    refine xT.br (fun c2 => ?_) (fun c2 => ?_)
    · refine xT.s1 hM rfl rfl ?_
      refine xT.s1 hM rfl rfl ?_
      exact xT.ret hM rfl rfl rfl rfl (⟨_, rfl, ⟨_, rfl, fun _ => by rw [c2]; decide⟩, rfl⟩)
    · refine xT.s1 hM rfl rfl ?_
      refine xT.s1 hM rfl rfl ?_
      refine xT.s1 hM rfl rfl ?_
      refine xT.br (fun c3 => ?_) (fun c3 => ?_)
      · refine xT.s1 hM rfl rfl ?_
        refine xT.s1 hM rfl rfl ?_
        exact xT.ret hM rfl rfl rfl rfl (⟨_, rfl, ⟨_, rfl, fun _ => by rw [c3]; decide⟩, rfl⟩)
      · refine xT.s1 hM rfl rfl ?_
        exact xT.ret hM rfl rfl rfl rfl (⟨_, rfl, ⟨_, rfl, fun z => absurd (show Int32.ofInt 0 = 0 from by decide) z⟩, rfl⟩)
  · refine xT.s1 hM rfl rfl ?_
    refine xT.s1 hM rfl rfl ?_
    refine xT.s1 hM rfl rfl ?_
    refine xT.br (fun c1 => ?_) (fun c1 => ?_)
    · refine xT.s1 hM rfl rfl ?_
      refine xT.s1 hM rfl rfl ?_
      exact xT.ret hM rfl rfl rfl rfl (⟨_, rfl, ⟨_, rfl, fun _ => ⟨fun z => by rw [z] at c1; exact absurd c1 (by decide), fun z => by rw [z] at c1; exact absurd c1 (by decide)⟩⟩, rfl⟩)
    · refine xT.s1 hM rfl rfl ?_
      refine xT.s1 hM rfl rfl ?_
      refine xT.s1 hM rfl rfl ?_
      refine xT.br (fun c2 => ?_) (fun c2 => ?_)
      · refine xT.s1 hM rfl rfl ?_
        refine xT.s1 hM rfl rfl ?_
        exact xT.ret hM rfl rfl rfl rfl (⟨_, rfl, ⟨_, rfl, fun _ => by rw [c2]; decide⟩, rfl⟩)
      · refine xT.s1 hM rfl rfl ?_
        refine xT.s1 hM rfl rfl ?_
        refine xT.s1 hM rfl rfl ?_
        refine xT.br (fun c3 => ?_) (fun c3 => ?_)
        · refine xT.s1 hM rfl rfl ?_
          refine xT.s1 hM rfl rfl ?_
          exact xT.ret hM rfl rfl rfl rfl (⟨_, rfl, ⟨_, rfl, fun _ => by rw [c3]; decide⟩, rfl⟩)
        · refine xT.s1 hM rfl rfl ?_
          exact xT.ret hM rfl rfl rfl rfl (⟨_, rfl, ⟨_, rfl, fun z => absurd (show Int32.ofInt 0 = 0 from by decide) z⟩, rfl⟩)
theorem c_ninit {c : Int32} (hn : h[b]? = some (.inr (10, x_cd 10))) (hH : c_K h th kh bh eh) : xT e d 117 0 [(0, .ref b), (1, .int c), (2, .ref th)] [] h (fun o h' => ∃ v, o = .inl v ∧ v = none ∧ ∃ G, h'[b]? = some (.inr (10, G)) ∧ c_nt G ∧ (∀ k, k ≠ b → h'[k]? = h[k]?) ∧ h'.length = h.length ∧ ab_sz h' = ab_sz h) := by
  have ln : (x_cd 10).length = 7 := rfl
  have g5 : (x_cd 10)[5]? = some (.int 0) := rfl
  have g6 : (x_cd 10)[6]? = some (.int (nI 0)) := rfl
  have hM : (x_mt e.1)[117]? = some xM117 := rfl
  have hn0 := hn
  obtain ⟨Fh, u0, u1, u2, u3, u5, ⟨x3, u6⟩, ⟨x4, u7⟩, ⟨x5, u8⟩⟩ := id hH
  refine xT.s1 hM rfl rfl ?_
  refine xT.ob hM rfl rfl rfl rfl rfl rfl ?_
  refine xT.s1 hM rfl rfl ?_
  refine xT.s1 hM rfl rfl ?_
  refine xT.put hM rfl rfl hn (Or.inl rfl) (by rw [ln]; decide) (rfl) (Or.inl rfl) (fun h_1 F_1 eF1 eh1 up1 fb1 fo1 fl1 => ?_)
  replace u0 := (up1.2.1 _ (x_neq u0 hn (by simp))).trans u0
  replace hn := up1.1
  replace ln := fl1.trans ln
  replace g5 := (fo1 5 (by decide)).trans g5
  replace g6 := (fo1 6 (by decide)).trans g6
  have fN0 := fb1
  refine xT.s1 hM rfl rfl ?_
  refine xT.s1 hM rfl rfl ?_
  refine xT.s2 hM rfl rfl (x2_get rfl (Or.inl rfl) u0 u3) ?_
  refine xT.put hM rfl rfl hn (Or.inl rfl) (by rw [ln]; decide) (rfl) (Or.inr ⟨rfl, rfl, rfl⟩) (fun h_2 F_2 eF2 eh2 up2 fb2 fo2 fl2 => ?_)
  replace u0 := (up2.2.1 _ (x_neq u0 hn (by simp))).trans u0
  replace hn := up2.1
  replace ln := fl2.trans ln
  replace g5 := (fo2 5 (by decide)).trans g5
  replace g6 := (fo2 6 (by decide)).trans g6
  replace fN0 := (fo2 0 (by decide)).trans fN0
  have fN1 := fb2
  refine xT.s1 hM rfl rfl ?_
  refine xT.s1 hM rfl rfl ?_
  refine xT.s2 hM rfl rfl (x2_get rfl (Or.inl rfl) u0 u6) ?_
  refine xT.put hM rfl rfl hn (Or.inl rfl) (by rw [ln]; decide) (rfl) (Or.inr ⟨rfl, rfl, rfl⟩) (fun h_3 F_3 eF3 eh3 up3 fb3 fo3 fl3 => ?_)
  replace u0 := (up3.2.1 _ (x_neq u0 hn (by simp))).trans u0
  replace hn := up3.1
  replace ln := fl3.trans ln
  replace g5 := (fo3 5 (by decide)).trans g5
  replace g6 := (fo3 6 (by decide)).trans g6
  replace fN0 := (fo3 0 (by decide)).trans fN0
  replace fN1 := (fo3 1 (by decide)).trans fN1
  have fN2 := fb3
  refine xT.s1 hM rfl rfl ?_
  refine xT.s1 hM rfl rfl ?_
  refine xT.s2 hM rfl rfl (x2_get rfl (Or.inl rfl) u0 u7) ?_
  refine xT.put hM rfl rfl hn (Or.inl rfl) (by rw [ln]; decide) (rfl) (Or.inr ⟨rfl, rfl, rfl⟩) (fun h_4 F_4 eF4 eh4 up4 fb4 fo4 fl4 => ?_)
  replace u0 := (up4.2.1 _ (x_neq u0 hn (by simp))).trans u0
  replace hn := up4.1
  replace ln := fl4.trans ln
  replace g5 := (fo4 5 (by decide)).trans g5
  replace g6 := (fo4 6 (by decide)).trans g6
  replace fN0 := (fo4 0 (by decide)).trans fN0
  replace fN1 := (fo4 1 (by decide)).trans fN1
  replace fN2 := (fo4 2 (by decide)).trans fN2
  have fN3 := fb4
  refine xT.s1 hM rfl rfl ?_
  refine xT.s1 hM rfl rfl ?_
  refine xT.s2 hM rfl rfl (x2_get rfl (Or.inl rfl) u0 u8) ?_
  refine xT.put hM rfl rfl hn (Or.inl rfl) (by rw [ln]; decide) (rfl) (Or.inl rfl) (fun h_5 F_5 eF5 eh5 up5 fb5 fo5 fl5 => ?_)
  replace u0 := (up5.2.1 _ (x_neq u0 hn (by simp))).trans u0
  replace hn := up5.1
  replace ln := fl5.trans ln
  replace g5 := (fo5 5 (by decide)).trans g5
  replace g6 := (fo5 6 (by decide)).trans g6
  replace fN0 := (fo5 0 (by decide)).trans fN0
  replace fN1 := (fo5 1 (by decide)).trans fN1
  replace fN2 := (fo5 2 (by decide)).trans fN2
  replace fN3 := (fo5 3 (by decide)).trans fN3
  have fN4 := fb5
  exact xT.ret hM rfl rfl rfl rfl (⟨_, rfl, rfl, _, hn, ⟨ln, ⟨_, fN0⟩, ⟨_, fN1⟩, ⟨_, fN2⟩, ⟨_, fN3⟩, ⟨_, fN4⟩, ⟨_, g5⟩, ⟨0, g6, by omega⟩⟩, fun k hk => by rw [up5.2.1 k hk, up4.2.1 k hk, up3.2.1 k hk, up2.2.1 k hk, up1.2.1 k hk], by rw [up5.2.2.1, up4.2.2.1, up3.2.2.1, up2.2.2.1, up1.2.2.1], by rw [up5.2.2.2, up4.2.2.2, up3.2.2.2, up2.2.2.2, up1.2.2.2]⟩)
theorem c_units (hn : h[b]? = some (.inr (10, G))) (hG : c_nt G) : xT e d 118 0 [(0, .ref b)] [] h (fun o h' => ∃ v, o = .inl v ∧ (∃ y : Int32, v = some (.int y)) ∧ h' = h) := by
  have hM : (x_mt e.1)[118]? = some xM118 := rfl
  obtain ⟨ln, ⟨z0, g0⟩, ⟨z1, g1⟩, ⟨z2, g2⟩, ⟨z3, g3⟩, -⟩ := hG
  refine xT.s1 hM rfl rfl ?_
  refine xT.s2 hM rfl rfl (x2_get rfl (Or.inl rfl) hn g0) ?_
  refine xT.s1 hM rfl rfl ?_
  refine xT.s1 hM rfl rfl ?_
  refine xT.br (fun b6 => ?_) (fun b6 => ?_)
  · refine xT.s1 hM rfl rfl ?_
    refine xT.s2 hM rfl rfl (x2_get rfl (Or.inl rfl) hn g3) ?_
    refine xT.s1 hM rfl rfl ?_
    exact xT.ret hM rfl rfl rfl rfl (⟨_, rfl, ⟨_, rfl⟩, rfl⟩)
  · refine xT.s1 hM rfl rfl ?_
    refine xT.s2 hM rfl rfl (x2_get rfl (Or.inl rfl) hn g0) ?_
    refine xT.s1 hM rfl rfl ?_
    refine xT.s1 hM rfl rfl ?_
    refine xT.br (fun b7 => ?_) (fun b7 => ?_)
    · refine xT.s1 hM rfl rfl ?_
      refine xT.s2 hM rfl rfl (x2_get rfl (Or.inl rfl) hn g3) ?_
      refine xT.s1 hM rfl rfl ?_
      exact xT.ret hM rfl rfl rfl rfl (⟨_, rfl, ⟨_, rfl⟩, rfl⟩)
    · refine xT.s1 hM rfl rfl ?_
      refine xT.s2 hM rfl rfl (x2_get rfl (Or.inl rfl) hn g0) ?_
      refine xT.s1 hM rfl rfl ?_
      refine xT.s1 hM rfl rfl ?_
      refine xT.br (fun b8 => ?_) (fun b8 => ?_)
      · refine xT.s1 hM rfl rfl ?_
        refine xT.s2 hM rfl rfl (x2_get rfl (Or.inl rfl) hn g3) ?_
        refine xT.s1 hM rfl rfl ?_
        exact xT.ret hM rfl rfl rfl rfl (⟨_, rfl, ⟨_, rfl⟩, rfl⟩)
      · refine xT.s1 hM rfl rfl ?_
        exact xT.ret hM rfl rfl rfl rfl (⟨_, rfl, ⟨_, rfl⟩, rfl⟩)
theorem c_hasId (hn : h[b]? = some (.inr (10, G))) (hG : c_nt G) : xT e d 119 0 [(0, .ref b)] [] h (fun o h' => ∃ v, o = .inl v ∧ (∃ y : Int32, v = some (.int y)) ∧ h' = h) := by
  have hM : (x_mt e.1)[119]? = some xM119 := rfl
  obtain ⟨ln, ⟨z0, g0⟩, -⟩ := hG
  refine xT.s1 hM rfl rfl ?_
  refine xT.s2 hM rfl rfl (x2_get rfl (Or.inl rfl) hn g0) ?_
  refine xT.s1 hM rfl rfl ?_
  refine xT.s1 hM rfl rfl ?_
  refine xT.br (fun b5 => ?_) (fun b5 => ?_)
  · refine xT.s1 hM rfl rfl ?_
    refine xT.s1 hM rfl rfl ?_
    exact xT.ret hM rfl rfl rfl rfl (⟨_, rfl, ⟨_, rfl⟩, rfl⟩)
  · refine xT.s1 hM rfl rfl ?_
    refine xT.s2 hM rfl rfl (x2_get rfl (Or.inl rfl) hn g0) ?_
    refine xT.s1 hM rfl rfl ?_
    refine xT.s1 hM rfl rfl ?_
    refine xT.br (fun b9 => ?_) (fun b9 => ?_)
    · refine xT.s1 hM rfl rfl ?_
      refine xT.s1 hM rfl rfl ?_
      exact xT.ret hM rfl rfl rfl rfl (⟨_, rfl, ⟨_, rfl⟩, rfl⟩)
    · refine xT.s1 hM rfl rfl ?_
      exact xT.ret hM rfl rfl rfl rfl (⟨_, rfl, ⟨_, rfl⟩, rfl⟩)
theorem c_form (hS : c_S h q0 qt qb ql th ta qa qe gb len cap sz kh bh eh ka ba ea) : xT e (d + 1) 109 0 [(0, .ref q0)] [] h (fun o h' => ∃ v, o = .inl v ∧ (∃ y : Int32, v = some (.int y)) ∧ h' = h) := by
  have hM : (x_mt e.1)[109]? = some xM109 := rfl
  obtain ⟨⟨F0, hq, lq, p0, p1, ⟨zp, p2⟩⟩, ⟨Ft, gl, kp, hT⟩, hH, hA, hht, ⟨Fa, ef, hL⟩, hY⟩ := id hS
  obtain ⟨ht, lt, t0, t1, t2, t3, t4, t5, hb8, hl8, k4, l4, hne⟩ := id hT
  obtain ⟨Fh, u0, u1, u2, u3, u5, ⟨x3, u6⟩, ⟨x4, u7⟩, ⟨x5, u8⟩⟩ := id hH
  obtain ⟨Fx, w0, w1, w2, w3, w5, ⟨y3, w6⟩, ⟨y4, w7⟩, ⟨y5, w8⟩⟩ := id hA
  have ha := hL.1
  refine xT.s1 hM rfl rfl ?_
  refine xT.s2 hM rfl rfl (x2_get rfl (Or.inl rfl) hq p0) ?_
  refine xT.s2 hM rfl rfl (x2_get rfl (Or.inl rfl) ht t4) ?_
  refine xT.s2 hM rfl rfl (x2_get rfl (Or.inl rfl) u0 u2) ?_
  refine xT.s1 hM rfl rfl ?_
  refine xT.s1 hM rfl rfl ?_
  refine xT.s2 hM rfl rfl (x2_get rfl (Or.inl rfl) hq p0) ?_
  refine xT.s2 hM rfl rfl (x2_get rfl (Or.inl rfl) ht t5) ?_
  refine xT.s2 hM rfl rfl (x2_get rfl (Or.inl rfl) w0 w2) ?_
  refine xT.s1 hM rfl rfl ?_
  refine xT.s1 hM rfl rfl ?_
  refine xT.s1 hM rfl rfl ?_
  refine xT.s1 hM rfl rfl ?_
  refine xT.br (fun b2 => ?_) (fun b2 => ?_)
  · refine xT.s1 hM rfl rfl ?_
    exact xT.ret hM rfl rfl rfl rfl (⟨_, rfl, ⟨_, rfl⟩, rfl⟩)
  · refine xT.s1 hM rfl rfl ?_
    refine xT.s1 hM rfl rfl ?_
    refine xT.s1 hM rfl rfl ?_
    refine xT.br (fun b3 => ?_) (fun b3 => ?_)
    · refine xT.s1 hM rfl rfl ?_
      refine xT.s1 hM rfl rfl ?_
      refine xT.s1 hM rfl rfl ?_
      refine xT.br (fun b4 => ?_) (fun b4 => ?_)
      · refine xT.s1 hM rfl rfl ?_
        exact xT.ret hM rfl rfl rfl rfl (⟨_, rfl, ⟨_, rfl⟩, rfl⟩)
      · refine xT.s1 hM rfl rfl ?_
        refine xT.s1 hM rfl rfl ?_
        refine xT.s1 hM rfl rfl ?_
        refine xT.br (fun b5 => ?_) (fun b5 => ?_)
        · refine xT.s1 hM rfl rfl ?_
          refine xT.go hM rfl rfl rfl rfl rfl rfl (xc_stat rfl rfl ⟨rfl, Nat.le_of_ble_eq_true rfl⟩) rfl ⟨Nat.le_of_ble_eq_true rfl, Nat.le_of_ble_eq_true rfl, by decide⟩ (c_begins) (fun v h2 hv => ?_)
          obtain ⟨⟨y, rfl, -⟩, hh2⟩ := hv
          subst h2
          refine xT.s1 hM rfl rfl ?_
          refine xT.br (fun b7 => ?_) (fun b7 => ?_)
          · refine xT.s1 hM rfl rfl ?_
            exact xT.ret hM rfl rfl rfl rfl (⟨_, rfl, ⟨_, rfl⟩, rfl⟩)
          · refine xT.s1 hM rfl rfl ?_
            refine xT.s1 hM rfl rfl ?_
            exact xT.ret hM rfl rfl rfl rfl (⟨_, rfl, ⟨_, rfl⟩, rfl⟩)
        · refine xT.s1 hM rfl rfl ?_
          exact xT.ret hM rfl rfl rfl rfl (⟨_, rfl, ⟨_, rfl⟩, rfl⟩)
    · refine xT.s1 hM rfl rfl ?_
      refine xT.s1 hM rfl rfl ?_
      refine xT.s1 hM rfl rfl ?_
      refine xT.br (fun b5 => ?_) (fun b5 => ?_)
      · refine xT.s1 hM rfl rfl ?_
        refine xT.go hM rfl rfl rfl rfl rfl rfl (xc_stat rfl rfl ⟨rfl, Nat.le_of_ble_eq_true rfl⟩) rfl ⟨Nat.le_of_ble_eq_true rfl, Nat.le_of_ble_eq_true rfl, by decide⟩ (c_begins) (fun v h2 hv => ?_)
        obtain ⟨⟨y, rfl, -⟩, hh2⟩ := hv
        subst h2
        refine xT.s1 hM rfl rfl ?_
        refine xT.br (fun b7 => ?_) (fun b7 => ?_)
        · refine xT.s1 hM rfl rfl ?_
          exact xT.ret hM rfl rfl rfl rfl (⟨_, rfl, ⟨_, rfl⟩, rfl⟩)
        · refine xT.s1 hM rfl rfl ?_
          refine xT.s1 hM rfl rfl ?_
          exact xT.ret hM rfl rfl rfl rfl (⟨_, rfl, ⟨_, rfl⟩, rfl⟩)
      · refine xT.s1 hM rfl rfl ?_
        exact xT.ret hM rfl rfl rfl rfl (⟨_, rfl, ⟨_, rfl⟩, rfl⟩)
end XCS
