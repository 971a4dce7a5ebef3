/-! the class: what its methods keep -/
/-- nodes stay nodes -/
def c_10 (h h' : ab_H) : Prop := ∀ (k : Nat) (G : List Value), h[k]? = some (.inr (10, G)) → ∃ G', h'[k]? = some (.inr (10, G'))
theorem c_10.rf (h : ab_H) : c_10 h h := fun _ G hk => ⟨G, hk⟩
theorem c_10.tr {h h1 h2 : ab_H} (a : c_10 h h1) (b : c_10 h1 h2) : c_10 h h2 := fun k G hk => by
  obtain ⟨G', h'⟩ := a k G hk
  exact b k G' h'
section XCT
variable {e : xE} {d q0 qt qb ql th ta qa qe len cap sz bh eh ba ea b : Nat} {gb : Nat → Int32} {h h' : ab_H} {kh ka : Int32} {G G' : List Value}
theorem c_K.kept {qk en bb : Nat} {kd : Int32} (k : c_K h qk kd bb en) (x : ∀ (G : List Value), h[qk]? = some (.inr (2, G)) → h'[qk]? = some (.inr (2, G))) : c_K h' qk kd bb en := by
  obtain ⟨Fk, h1, h2⟩ := k
  exact ⟨Fk, x _ h1, h2⟩
/-- one node has changed -/
theorem c_S.node (hS : c_S h q0 qt qb ql th ta qa qe gb len cap sz kh bh eh ka ba ea) (u : x_up h b h' (.inr (10, G'))) (hb : h[b]? = some (.inr (10, G))) (hG : c_nt G') : c_S h' q0 qt qb ql th ta qa qe gb len cap sz kh bh eh ka ba ea ∧ c_fr h h' qb ql ∧ c_10 h h' := by
  have ko : ∀ (k ci : Nat) (F : List Value), h[k]? = some (.inr (ci, F)) → ci ≠ 10 → h'[k]? = some (.inr (ci, F)) := fun k ci F hk hc => (u.2.1 k (x_neq hk hb (by simp; omega))).trans hk
  have kr : ∀ (k t n : Nat) (f : Nat → Value), h[k]? = some (.inl (t, n, f)) → h'[k]? = some (.inl (t, n, f)) := fun k t n f hk => (u.2.1 k (x_neq hk hb (by simp))).trans hk
  have k10 : c_10 h h' := fun k F hk => by
    by_cases hkb : k = b
    · subst hkb; exact ⟨G', u.1⟩
    · exact ⟨F, (u.2.1 k hkb).trans hk⟩
  obtain ⟨⟨F0, hq, r0⟩, ⟨Ft, gl, kp, ht, lt, t0, t1, t2, t3, t4, t5, hb8, hl8, r1⟩, hH, hA, hht, ⟨Fa, ef, ha, la, f1, f2, hd, hs, hc, hN⟩, hY⟩ := hS
  refine ⟨⟨⟨F0, ko _ _ _ hq (by decide), r0⟩, ⟨Ft, gl, kp, ko _ _ _ ht (by decide), lt, t0, t1, t2, t3, t4, t5, kr _ _ _ _ hb8, kr _ _ _ _ hl8, r1⟩, hH.kept (fun F hk => ko _ _ _ hk (by decide)), hA.kept (fun F hk => ko _ _ _ hk (by decide)), hht, ⟨Fa, ef, ko _ _ _ ha (by decide), la, f1, f2, ?_, hs, hc, fun i hi => (hN i hi).kept k10⟩, fun k F hk => ?_⟩, fun k x hk n1 n2 n3 n4 => ?_, k10⟩
  · rcases hd with z | ⟨z1, z2, z3⟩
    · exact Or.inl z
    · exact Or.inr ⟨z1, kr _ _ _ _ z2, z3⟩
  · by_cases hkb : k = b
    · subst hkb; rw [u.1] at hk; cases hk; exact hG
    · rw [u.2.1 k hkb] at hk; exact hY k F hk
  · exact (u.2.1 k (fun z => by subst z; rw [hb] at hk; exact absurd rfl (n3 10 G (Option.some.inj hk).symm).2.2.2.2)).trans hk
/-- the list has changed -/
theorem c_S.lst {qe2 cap2 sz2 : Nat} {Fa2 : List Value} {ef2 : Nat → Value} (hS : c_S h q0 qt qb ql th ta qa qe gb len cap sz kh bh eh ka ba ea) (hL : c_L h' qa Fa2 qe2 cap2 sz2 ef2) (fr : ∀ (k : Nat) (x : ab_E), h[k]? = some x → k ≠ qa → (∀ n f, x ≠ .inl (5, n, f)) → h'[k]? = some x) (rv : ∀ (k : Nat) (G : List Value), h'[k]? = some (.inr (10, G)) → h[k]? = some (.inr (10, G))) : c_S h' q0 qt qb ql th ta qa qe2 gb len cap2 sz2 kh bh eh ka ba ea ∧ c_fr h h' qb ql ∧ c_10 h h' := by
  obtain ⟨⟨F0, hq, r0⟩, ⟨Ft, gl, kp, ht, lt, t0, t1, t2, t3, t4, t5, hb8, hl8, r1⟩, hH, hA, hht, ⟨Fa, ef, ha, -⟩, hY⟩ := hS
  have ko : ∀ (k ci : Nat) (F : List Value), h[k]? = some (.inr (ci, F)) → ci ≠ 4 → h'[k]? = some (.inr (ci, F)) := fun k ci F hk hc => fr k _ hk (x_neq hk ha (by simp; omega)) (by simp)
  have kr : ∀ (k n : Nat) (f : Nat → Value), h[k]? = some (.inl (0, n, f)) → h'[k]? = some (.inl (0, n, f)) := fun k n f hk => fr k _ hk (x_neq hk ha (by simp)) (by simp)
  exact ⟨⟨⟨F0, ko _ _ _ hq (by decide), r0⟩, ⟨Ft, gl, kp, ko _ _ _ ht (by decide), lt, t0, t1, t2, t3, t4, t5, kr _ _ _ hb8, kr _ _ _ hl8, r1⟩, hH.kept (fun F hk => ko _ _ _ hk (by decide)), hA.kept (fun F hk => ko _ _ _ hk (by decide)), hht, ⟨Fa2, ef2, hL⟩, fun k F hk => hY k F (rv k F hk)⟩, fun k x hk n1 n2 n3 n4 => fr k x hk (fun z => by subst z; rw [ha] at hk; exact absurd rfl (n3 4 Fa (Option.some.inj hk).symm).2.2.2.1) n4, fun k F hk => ⟨F, ko _ _ _ hk (by decide)⟩⟩
/-- a cell has come -/
theorem c_S.ext (hS : c_S h q0 qt qb ql th ta qa qe gb len cap sz kh bh eh ka ba ea) (x : ∀ (k : Nat) (x : ab_E), h[k]? = some x → h'[k]? = some x) (hY' : c_TY h') : c_S h' q0 qt qb ql th ta qa qe gb len cap sz kh bh eh ka ba ea := by
  obtain ⟨⟨F0, hq, r0⟩, ⟨Ft, gl, kp, ht, lt, t0, t1, t2, t3, t4, t5, hb8, hl8, r1⟩, hH, hA, hht, ⟨Fa, ef, ha, la, f1, f2, hd, hs, hc, hN⟩, hY⟩ := hS
  refine ⟨⟨F0, x _ _ hq, r0⟩, ⟨Ft, gl, kp, x _ _ ht, lt, t0, t1, t2, t3, t4, t5, x _ _ hb8, x _ _ hl8, r1⟩, hH.kept (fun F hk => x _ _ hk), hA.kept (fun F hk => x _ _ hk), hht, ⟨Fa, ef, x _ _ ha, la, f1, f2, ?_, hs, hc, fun i hi => (hN i hi).kept (fun k G hk => ⟨G, x _ _ hk⟩)⟩, hY'⟩
  rcases hd with z | ⟨z1, z2, z3⟩
  · exact Or.inl z
  · exact Or.inr ⟨z1, x _ _ z2, z3⟩
/-- advance, of the class's object -/
theorem c_advS (hE : e.1 = .null ∨ ∃ w, e.1 = .float w) (hS : c_S h q0 qt qb ql th ta qa qe gb len cap sz kh bh eh ka ba ea) (hea : ea ≤ len) : xT e (d + 7) 126 0 [(0, .ref qt)] [] h (fun o h' => ∃ v, o = .inl v ∧ v = none ∧ ∃ (kd : Int32) (bb en : Nat), c_S h' q0 qt qb ql ta th qa qe gb len cap sz ka ba ea kd bb en ∧ c_ok kd bb en len ∧ ea ≤ bb ∧ bb ≤ len ∧ c_fr h h' qb ql ∧ c_10 h h' ∧ h'.length = h.length ∧ ab_sz h' = ab_sz h) := by
  obtain ⟨⟨F0, hq, r0⟩, ⟨Ft, gl, kp, hT⟩, hH, hA, hht, ⟨Fa, ef, ha, la, f1, f2, hd, hs, hc, hN⟩, hY⟩ := hS
  refine (c_advance hE hT hH hA hht hea).mono (fun o h' ho => ?_)
  obtain ⟨v, y1, y2, F', gl', kp', kd, bb, en, y3, y4, y5, y6, y7, y8, y9, y10, y11⟩ := ho
  have ht := hT.1
  have hl8 := hT.2.2.2.2.2.2.2.2.2.1
  obtain ⟨Fh, u0, -⟩ := id hH
  have ko : ∀ (k ci : Nat) (F : List Value), h[k]? = some (.inr (ci, F)) → ci ≠ 1 → ci ≠ 2 → h'[k]? = some (.inr (ci, F)) := fun k ci F hk c1 c2 => (y9 k (x_neq hk ht (by simp; omega)) (x_neq hk hl8 (by simp)) (x_neq hk u0 (by simp; omega))).trans hk
  have k10 : c_10 h h' := fun k F hk => ⟨F, ko _ _ _ hk (by decide) (by decide)⟩
  refine ⟨v, y1, y2, kd, bb, en, ⟨⟨F0, ko _ _ _ hq (by decide) (by decide), r0⟩, ⟨F', gl', kp', y3⟩, y4, y5, Ne.symm hht, ⟨Fa, ef, ko _ _ _ ha (by decide) (by decide), la, f1, f2, ?_, hs, hc, fun i hi => (hN i hi).kept k10⟩, fun k F hk => ?_⟩, y6, y7, y8, fun k x hk n1 n2 n3 n4 => ?_, k10, y10, y11⟩
  · rcases hd with z | ⟨z1, z2, z3⟩
    · exact Or.inl z
    · exact Or.inr ⟨z1, (y9 _ (x_neq z2 ht (by simp)) (x_neq z2 hl8 (by simp)) (x_neq z2 u0 (by simp))).trans z2, z3⟩
  · obtain ⟨Fz, v0, -⟩ := id y5
    rw [y9 k (x_neq hk y3.1 (by simp)) (x_neq hk y3.2.2.2.2.2.2.2.2.2.1 (by simp)) (x_neq hk v0 (by simp))] at hk
    exact hY k F hk
  · exact (y9 k (fun z => by subst z; rw [ht] at hk; exact absurd rfl (n3 1 Ft (Option.some.inj hk).symm).2.1) n2 (fun z => by subst z; rw [u0] at hk; exact absurd rfl (n3 2 Fh (Option.some.inj hk).symm).2.2.1)).trans hk
theorem c_close (hS : c_S h q0 qt qb ql th ta qa qe gb len cap sz kh bh eh ka ba ea) (hb : h[b]? = some (.inr (10, G))) : xT e (d + 1) 114 0 [(0, .ref q0), (1, .ref b)] [] h (fun o h' => ∃ v, o = .inl v ∧ v = none ∧ c_S h' q0 qt qb ql th ta qa qe gb len cap sz kh bh eh ka ba ea ∧ c_fr h h' qb ql ∧ c_10 h h' ∧ h'.length = h.length ∧ ab_sz h' = ab_sz h) := by
  have hM : (x_mt e.1)[114]? = some xM114 := rfl
  obtain ⟨⟨F0, hq, lq, p0, p1, ⟨zp, p2⟩⟩, ⟨Ft, gl, kp, hT⟩, hH, hA, hht, ⟨Fa, ef, hL⟩, hY⟩ := id hS
  obtain ⟨ht, lt, t0, t1, t2, t3, t4, t5, hb8, hl8, k4, l4, hne⟩ := id hT
  obtain ⟨Fh, u0, u1, u2, u3, u5, ⟨x3, u6⟩, ⟨x4, u7⟩, ⟨x5, u8⟩⟩ := id hH
  obtain ⟨Fx, w0, w1, w2, w3, w5, ⟨y3, w6⟩, ⟨y4, w7⟩, ⟨y5, w8⟩⟩ := id hA
  have ha := hL.1
  obtain ⟨ln, g0, g1, g2, g3, g4, g5, -⟩ := hY b G hb
  have hb0 := hb
  refine xT.s1 hM rfl rfl ?_
  refine xT.s1 hM rfl rfl ?_
  refine xT.s2 hM rfl rfl (x2_get rfl (Or.inl rfl) hq p1) ?_
  refine xT.go hM rfl rfl rfl rfl rfl rfl (xc_virt rfl rfl rfl ha ⟨rfl, Nat.le_of_ble_eq_true rfl, rfl, Or.inl rfl⟩) rfl ⟨Nat.le_of_ble_eq_true rfl, Nat.le_of_ble_eq_true rfl, by decide⟩ (c_size hL) (fun v h2 hv => ?_)
  obtain ⟨rfl, hh2⟩ := hv
  subst h2
  refine xT.put hM rfl rfl hb (Or.inl rfl) (by rw [ln]; decide) (rfl) (Or.inl rfl) (fun h1 G1 eF eh up fb fo fl => ?_)
  have hG1 : c_nt G1 := ⟨fl.trans ln, g0.imp (fun _ z => (fo 0 (by decide)).trans z), g1.imp (fun _ z => (fo 1 (by decide)).trans z), g2.imp (fun _ z => (fo 2 (by decide)).trans z), g3.imp (fun _ z => (fo 3 (by decide)).trans z), g4.imp (fun _ z => (fo 4 (by decide)).trans z), g5.imp (fun _ z => (fo 5 (by decide)).trans z), sz, fb, by have := hL.2.2.2.2.2.1; have := hL.2.2.2.2.2.2.1; omega⟩
  obtain ⟨s1, s2, s3⟩ := hS.node up hb hG1
  exact xT.ret hM rfl rfl rfl rfl (⟨_, rfl, rfl, s1, s2, s3, up.2.2.1, up.2.2.2⟩)
theorem c_addN {c : Int32} (hS : c_S h q0 qt qb ql th ta qa qe gb len cap sz kh bh eh ka ba ea) (hsz : sz ≤ 8500) (r1 : h.length + 2 ≤ e.2.2.2.1) (r2 : ab_sz h + 20007 ≤ e.2.2.2.2.1) : xT e (d + 7) 113 0 [(0, .ref q0), (1, .int c)] [] h (fun o h' => ∃ v, o = .inl v ∧ ∃ nb, v = some (.ref nb) ∧ (∃ G, h'[nb]? = some (.inr (10, G))) ∧ ∃ qe' cap', c_S h' q0 qt qb ql th ta qa qe' gb len cap' (sz + 1) kh bh eh ka ba ea ∧ c_fr h h' qb ql ∧ c_10 h h' ∧ h.length ≤ h'.length ∧ 5 * h'.length + cap ≤ 5 * h.length + 5 + cap' ∧ ab_sz h' + 4 * cap ≤ ab_sz h + 7 + 4 * cap' ∧ cap ≤ cap' ∧ (cap' = cap ∨ (sz = cap ∧ cap' ≤ 2 * cap + 10))) := by
  have hM : (x_mt e.1)[113]? = some xM113 := rfl
  obtain ⟨⟨F0, hq, lq, p0, p1, ⟨zp, p2⟩⟩, ⟨Ft, gl, kp, hT⟩, hH, hA, hht, ⟨Fa, ef, hL⟩, hY⟩ := id hS
  obtain ⟨ht, lt, t0, t1, t2, t3, t4, t5, hb8, hl8, k4, l4, hne⟩ := id hT
  obtain ⟨Fh, u0, u1, u2, u3, u5, ⟨x3, u6⟩, ⟨x4, u7⟩, ⟨x5, u8⟩⟩ := id hH
  obtain ⟨Fx, w0, w1, w2, w3, w5, ⟨y3, w6⟩, ⟨y4, w7⟩, ⟨y5, w8⟩⟩ := id hA
  have ha := hL.1
  refine xT.new hM rfl rfl rfl (by omega) (by show ab_sz _ + 7 ≤ _; omega) (fun h1 e1 w => ?_)
  have l1 := w.2.2.1
  have z1 : ab_sz h1 = ab_sz h + 7 := w.2.2.2
  have hY1 : c_TY h1 := fun k F hk => by
    by_cases hkl : k = h.length
    · subst hkl; rw [w.1] at hk; cases hk; exact ⟨rfl, ⟨_, rfl⟩, ⟨_, rfl⟩, ⟨_, rfl⟩, ⟨_, rfl⟩, ⟨_, rfl⟩, ⟨_, rfl⟩, 0, rfl, by omega⟩
    · have hl := x_lt hk
      rw [e1, List.getElem?_append_left (by omega)] at hk
      exact hY k F hk
  have hS1 := hS.ext w.2.1 hY1
  replace hS := hS1
  obtain ⟨⟨F0, hq, lq, p0, p1, ⟨zp, p2⟩⟩, ⟨Ft, gl, kp, hT⟩, hH, hA, hht, ⟨Fa, ef, hL⟩, hY⟩ := id hS
  obtain ⟨ht, lt, t0, t1, t2, t3, t4, t5, hb8, hl8, k4, l4, hne⟩ := id hT
  obtain ⟨Fh, u0, u1, u2, u3, u5, ⟨x3, u6⟩, ⟨x4, u7⟩, ⟨x5, u8⟩⟩ := id hH
  obtain ⟨Fx, w0, w1, w2, w3, w5, ⟨y3, w6⟩, ⟨y4, w7⟩, ⟨y5, w8⟩⟩ := id hA
  have ha := hL.1
  refine xT.s1 hM rfl rfl ?_
  refine xT.s1 hM rfl rfl ?_
  refine xT.s1 hM rfl rfl ?_
  refine xT.s2 hM rfl rfl (x2_get rfl (Or.inl rfl) hq p0) ?_
  refine xT.s2 hM rfl rfl (x2_get rfl (Or.inl rfl) ht t4) ?_
  refine xT.go hM rfl rfl rfl rfl rfl rfl (xc_init rfl rfl rfl ⟨rfl, Nat.le_of_ble_eq_true rfl, rfl, rfl, rfl⟩) rfl ⟨Nat.le_of_ble_eq_true rfl, Nat.le_of_ble_eq_true rfl, by decide⟩ (c_ninit w.1 hH) (fun v h2 hv => ?_)
  obtain ⟨rfl, G2, b0, b1, b2, b3, b4⟩ := hv
  have up2 : x_up h1 h.length h2 (.inr (10, G2)) := ⟨b0, b2, b3, b4⟩
  obtain ⟨hS2, r2a, r2b⟩ := hS.node up2 w.1 b1
  replace hS := hS2
  obtain ⟨⟨F0, hq, lq, p0, p1, ⟨zp, p2⟩⟩, ⟨Ft, gl, kp, hT⟩, hH, hA, hht, ⟨Fa, ef, hL⟩, hY⟩ := id hS
  obtain ⟨ht, lt, t0, t1, t2, t3, t4, t5, hb8, hl8, k4, l4, hne⟩ := id hT
  obtain ⟨Fh, u0, u1, u2, u3, u5, ⟨x3, u6⟩, ⟨x4, u7⟩, ⟨x5, u8⟩⟩ := id hH
  obtain ⟨Fx, w0, w1, w2, w3, w5, ⟨y3, w6⟩, ⟨y4, w7⟩, ⟨y5, w8⟩⟩ := id hA
  have ha := hL.1
  refine xT.s1 hM rfl rfl ?_
  refine xT.s1 hM rfl rfl ?_
  refine xT.s2 hM rfl rfl (x2_get rfl (Or.inl rfl) hq p1) ?_
  refine xT.s1 hM rfl rfl ?_
  refine xT.go hM rfl rfl rfl rfl rfl rfl (xc_virt rfl rfl rfl ha ⟨rfl, Nat.le_of_ble_eq_true rfl, rfl, Or.inl rfl⟩) rfl ⟨Nat.le_of_ble_eq_true rfl, Nat.le_of_ble_eq_true rfl, by decide⟩ (c_add hL b0 (by omega) (by omega) (by omega)) (fun v h3 hv => ?_)
  obtain ⟨rfl, Fa3, qe3, cap3, ef3, y1, y2, y3, y4, y5, y6, y7, y8, y9, y10, y11, y12⟩ := hv
  obtain ⟨hS3, r3a, r3b⟩ := hS.lst y1 y5 y12
  have hb3 := y5 _ _ b0 (x_neq b0 ha (by simp)) (by simp)
  replace hS := hS3
  obtain ⟨⟨F0, hq, lq, p0, p1, ⟨zp, p2⟩⟩, ⟨Ft, gl, kp, hT⟩, hH, hA, hht, ⟨Fa, ef, hL⟩, hY⟩ := id hS
  obtain ⟨ht, lt, t0, t1, t2, t3, t4, t5, hb8, hl8, k4, l4, hne⟩ := id hT
  obtain ⟨Fh, u0, u1, u2, u3, u5, ⟨x3, u6⟩, ⟨x4, u7⟩, ⟨x5, u8⟩⟩ := id hH
  obtain ⟨Fx, w0, w1, w2, w3, w5, ⟨y3, w6⟩, ⟨y4, w7⟩, ⟨y5, w8⟩⟩ := id hA
  have ha := hL.1
  refine xT.s1 hM rfl rfl ?_
  refine xT.s1 hM rfl rfl ?_
  refine xT.s1 hM rfl rfl ?_
  refine xT.go hM rfl rfl rfl rfl rfl rfl (xc_virt rfl rfl rfl hq ⟨rfl, Nat.le_of_ble_eq_true rfl, rfl, Or.inl rfl⟩) rfl ⟨Nat.le_of_ble_eq_true rfl, Nat.le_of_ble_eq_true rfl, by decide⟩ (c_close hS hb3) (fun v h4 hv => ?_)
  obtain ⟨rfl, s1, s2, s3, s4, s5⟩ := hv
  obtain ⟨G4, hb4⟩ := s3 _ _ hb3
  refine xT.s1 hM rfl rfl ?_
  have xf : c_fr h h1 qb ql := fun k x hk _ _ _ _ => w.2.1 k x hk
  have x10 : c_10 h h1 := fun k G hk => ⟨G, w.2.1 k _ hk⟩
  exact xT.ret hM rfl rfl rfl rfl (⟨_, rfl, h.length, rfl, ⟨G4, hb4⟩, qe3, cap3, s1, ((xf.tr r2a).tr r3a).tr s2, ((x10.tr r2b).tr r3b).tr s3, by omega, by omega, by omega, y10, y11⟩)
end XCT
