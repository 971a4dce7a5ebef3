/-! the reference: read -/
section XMF
variable {e : xE} {d q q8 tp nn cap : Nat} {gb : Nat → Int32} {h h' : ab_H} {F F' : List Value} {R : Nat → Nat} {A : m_AT}
theorem m_G.put12 (hG : m_G e h q q8 gb F tp nn cap R A) (u : x_up h q h' (.inr (3, F'))) (hl : F'.length = F.length) {v : Int32} (fb : F'[12]? = some (.int v)) (fo : ∀ i, i ≠ 12 → F'[i]? = F[i]?) : m_G e h' q q8 gb F' tp nn cap R A := by
  obtain ⟨⟨fr, a, t, w, hX, hw⟩, hC, ⟨z0, z3, z12⟩, hE, hnd, hct, n8, c8, bq, b8, bz⟩ := hG
  have hq := hX.1.1
  have frq : ∀ (k : Nat) (x : ab_E), h[k]? = some x → k ≠ q → h'[k]? = some x := fun k x hk hn => (u.2.1 k hn).trans hk
  obtain ⟨⟨-, hl0, f1, f2, f6, f7, ⟨y8, f8⟩, ⟨y9, f9⟩, f10, f11, h8, htp⟩, -⟩ := hX
  obtain ⟨qs, qk, sf, kf, c1, c2, c3, c4, c5, c6⟩ := hC
  obtain ⟨⟨e1, e2, e3⟩, ⟨g0, g1, g2, g3, g4, g5⟩, ⟨r0, r1, r2, r3, r4, r5⟩, ns, cs⟩ := hE
  refine ⟨⟨fr, a, t, w, ⟨⟨u.1, hl.trans hl0, (fo 1 (by omega)).trans f1, (fo 2 (by omega)).trans f2, (fo 6 (by omega)).trans f6, (fo 7 (by omega)).trans f7, ⟨_, (fo 8 (by omega)).trans f8⟩, ⟨_, (fo 9 (by omega)).trans f9⟩, (fo 10 (by omega)).trans f10, (fo 11 (by omega)).trans f11, frq _ _ h8 (x_neq h8 hq (by simp)), htp⟩, fun _ _ => rfl, fun _ _ hk _ => hk⟩, ?_⟩, ⟨qs, qk, sf, kf, (fo 4 (by omega)).trans c1, (fo 5 (by omega)).trans c2, frq _ _ c3 (x_neq c3 hq (by simp)), frq _ _ c4 (x_neq c4 hq (by simp)), c5, c6⟩, ⟨?_, ?_, ?_⟩, ⟨⟨u.1, hl.trans e2, (fo 14 (by omega)).trans e3⟩, ⟨(fo 15 (by omega)).trans g0, (fo 16 (by omega)).trans g1, (fo 17 (by omega)).trans g2, (fo 18 (by omega)).trans g3, (fo 19 (by omega)).trans g4, (fo 20 (by omega)).trans g5⟩, ⟨frq _ _ r0 (x_neq r0 hq (by simp)), frq _ _ r1 (x_neq r1 hq (by simp)), frq _ _ r2 (x_neq r2 hq (by simp)), frq _ _ r3 (x_neq r3 hq (by simp)), frq _ _ r4 (x_neq r4 hq (by simp)), frq _ _ r5 (x_neq r5 hq (by simp))⟩, ns, cs⟩, fun i hi => ?_, hct, n8, c8, bq, by rw [u.2.2.1]; exact b8, fun x hx => bz x (hx.imp (fun y => (fo 4 (by omega)).symm.trans y) (fun y => (fo 5 (by omega)).symm.trans y))⟩
  · rcases hw with z | ⟨n, z⟩
    · exact Or.inl z
    · exact Or.inr ⟨n, z.kept frq hq (by decide)⟩
  · obtain ⟨z, hz⟩ := z0
    exact ⟨z, (fo 0 (by omega)).trans hz⟩
  · obtain ⟨z, hz⟩ := z3
    exact ⟨z, (fo 3 (by omega)).trans hz⟩
  · exact ⟨_, fb⟩
  · obtain ⟨⟨b, G, zz, tx, w1, w2, w3, w4, w5⟩, w6⟩ := hnd i hi
    refine ⟨⟨b, G, zz, tx, w1, frq _ _ w2 (x_neq w2 hq (by simp)), w3, w4, fun a1 a2 => ?_⟩, ?_⟩
    · obtain ⟨m, y⟩ := w5 a1 a2
      exact ⟨m, y.kept frq hq (by decide)⟩
    · rcases w6 with y | ⟨m, y⟩
      · exact Or.inl y
      · exact Or.inr ⟨m, y.kept frq hq (by decide)⟩
theorem m_G.put11 (hG : m_G e h q q8 gb F tp nn cap R A) (u : x_up h q h' (.inr (3, F'))) (hl : F'.length = F.length) {a2 : Nat} (fb : F'[11]? = some (.int (nI a2))) (fo : ∀ i, i ≠ 11 → F'[i]? = F[i]?) : m_G e h' q q8 gb F' tp nn cap R A := by
  obtain ⟨⟨fr, a, t, w, hX, hw⟩, hC, ⟨z0, z3, z12⟩, hE, hnd, hct, n8, c8, bq, b8, bz⟩ := hG
  have hq := hX.1.1
  have frq : ∀ (k : Nat) (x : ab_E), h[k]? = some x → k ≠ q → h'[k]? = some x := fun k x hk hn => (u.2.1 k hn).trans hk
  obtain ⟨⟨-, hl0, f1, f2, f6, f7, ⟨y8, f8⟩, ⟨y9, f9⟩, f10, f11, h8, htp⟩, -⟩ := hX
  obtain ⟨qs, qk, sf, kf, c1, c2, c3, c4, c5, c6⟩ := hC
  obtain ⟨⟨e1, e2, e3⟩, ⟨g0, g1, g2, g3, g4, g5⟩, ⟨r0, r1, r2, r3, r4, r5⟩, ns, cs⟩ := hE
  refine ⟨⟨fr, a2, t, w, ⟨⟨u.1, hl.trans hl0, (fo 1 (by omega)).trans f1, (fo 2 (by omega)).trans f2, (fo 6 (by omega)).trans f6, (fo 7 (by omega)).trans f7, ⟨_, (fo 8 (by omega)).trans f8⟩, ⟨_, (fo 9 (by omega)).trans f9⟩, (fo 10 (by omega)).trans f10, fb, frq _ _ h8 (x_neq h8 hq (by simp)), htp⟩, fun _ _ => rfl, fun _ _ hk _ => hk⟩, ?_⟩, ⟨qs, qk, sf, kf, (fo 4 (by omega)).trans c1, (fo 5 (by omega)).trans c2, frq _ _ c3 (x_neq c3 hq (by simp)), frq _ _ c4 (x_neq c4 hq (by simp)), c5, c6⟩, ⟨?_, ?_, ?_⟩, ⟨⟨u.1, hl.trans e2, (fo 14 (by omega)).trans e3⟩, ⟨(fo 15 (by omega)).trans g0, (fo 16 (by omega)).trans g1, (fo 17 (by omega)).trans g2, (fo 18 (by omega)).trans g3, (fo 19 (by omega)).trans g4, (fo 20 (by omega)).trans g5⟩, ⟨frq _ _ r0 (x_neq r0 hq (by simp)), frq _ _ r1 (x_neq r1 hq (by simp)), frq _ _ r2 (x_neq r2 hq (by simp)), frq _ _ r3 (x_neq r3 hq (by simp)), frq _ _ r4 (x_neq r4 hq (by simp)), frq _ _ r5 (x_neq r5 hq (by simp))⟩, ns, cs⟩, fun i hi => ?_, hct, n8, c8, bq, by rw [u.2.2.1]; exact b8, fun x hx => bz x (hx.imp (fun y => (fo 4 (by omega)).symm.trans y) (fun y => (fo 5 (by omega)).symm.trans y))⟩
  · rcases hw with z | ⟨n, z⟩
    · exact Or.inl z
    · exact Or.inr ⟨n, z.kept frq hq (by decide)⟩
  · obtain ⟨z, hz⟩ := z0
    exact ⟨z, (fo 0 (by omega)).trans hz⟩
  · obtain ⟨z, hz⟩ := z3
    exact ⟨z, (fo 3 (by omega)).trans hz⟩
  · obtain ⟨z, hz⟩ := z12
    exact ⟨z, (fo 12 (by omega)).trans hz⟩
  · obtain ⟨⟨b, G, zz, tx, w1, w2, w3, w4, w5⟩, w6⟩ := hnd i hi
    refine ⟨⟨b, G, zz, tx, w1, frq _ _ w2 (x_neq w2 hq (by simp)), w3, w4, fun a1 a2 => ?_⟩, ?_⟩
    · obtain ⟨m, y⟩ := w5 a1 a2
      exact ⟨m, y.kept frq hq (by decide)⟩
    · rcases w6 with y | ⟨m, y⟩
      · exact Or.inl y
      · exact Or.inr ⟨m, y.kept frq hq (by decide)⟩
theorem m_G.put14 (hG : m_G e h q q8 gb F tp nn cap R A) (u : x_up h q h' (.inr (3, F'))) (hl : F'.length = F.length) (fb : F'[14]? = some (.int (nI 0))) (fo : ∀ i, i ≠ 14 → F'[i]? = F[i]?) : m_G e h' q q8 gb F' tp 0 cap R A := by
  obtain ⟨⟨fr, a, t, w, hX, hw⟩, hC, ⟨z0, z3, z12⟩, hE, hnd, hct, n8, c8, bq, b8, bz⟩ := hG
  have hq := hX.1.1
  have frq : ∀ (k : Nat) (x : ab_E), h[k]? = some x → k ≠ q → h'[k]? = some x := fun k x hk hn => (u.2.1 k hn).trans hk
  obtain ⟨⟨-, hl0, f1, f2, f6, f7, ⟨y8, f8⟩, ⟨y9, f9⟩, f10, f11, h8, htp⟩, -⟩ := hX
  obtain ⟨qs, qk, sf, kf, c1, c2, c3, c4, c5, c6⟩ := hC
  obtain ⟨⟨e1, e2, e3⟩, ⟨g0, g1, g2, g3, g4, g5⟩, ⟨r0, r1, r2, r3, r4, r5⟩, ns, cs⟩ := hE
  refine ⟨⟨fr, a, t, w, ⟨⟨u.1, hl.trans hl0, (fo 1 (by omega)).trans f1, (fo 2 (by omega)).trans f2, (fo 6 (by omega)).trans f6, (fo 7 (by omega)).trans f7, ⟨_, (fo 8 (by omega)).trans f8⟩, ⟨_, (fo 9 (by omega)).trans f9⟩, (fo 10 (by omega)).trans f10, (fo 11 (by omega)).trans f11, frq _ _ h8 (x_neq h8 hq (by simp)), htp⟩, fun _ _ => rfl, fun _ _ hk _ => hk⟩, ?_⟩, ⟨qs, qk, sf, kf, (fo 4 (by omega)).trans c1, (fo 5 (by omega)).trans c2, frq _ _ c3 (x_neq c3 hq (by simp)), frq _ _ c4 (x_neq c4 hq (by simp)), c5, c6⟩, ⟨?_, ?_, ?_⟩, ⟨⟨u.1, hl.trans e2, fb⟩, ⟨(fo 15 (by omega)).trans g0, (fo 16 (by omega)).trans g1, (fo 17 (by omega)).trans g2, (fo 18 (by omega)).trans g3, (fo 19 (by omega)).trans g4, (fo 20 (by omega)).trans g5⟩, ⟨frq _ _ r0 (x_neq r0 hq (by simp)), frq _ _ r1 (x_neq r1 hq (by simp)), frq _ _ r2 (x_neq r2 hq (by simp)), frq _ _ r3 (x_neq r3 hq (by simp)), frq _ _ r4 (x_neq r4 hq (by simp)), frq _ _ r5 (x_neq r5 hq (by simp))⟩, ns, ⟨Nat.zero_le _, cs.2⟩⟩, fun i hi => absurd hi (Nat.not_lt_zero i), fun i hi => absurd hi (Nat.not_lt_zero i), Nat.zero_le _, c8, bq, by rw [u.2.2.1]; exact b8, fun x hx => bz x (hx.imp (fun y => (fo 4 (by omega)).symm.trans y) (fun y => (fo 5 (by omega)).symm.trans y))⟩
  · rcases hw with z | ⟨n, z⟩
    · exact Or.inl z
    · exact Or.inr ⟨n, z.kept frq hq (by decide)⟩
  · obtain ⟨z, hz⟩ := z0
    exact ⟨z, (fo 0 (by omega)).trans hz⟩
  · obtain ⟨z, hz⟩ := z3
    exact ⟨z, (fo 3 (by omega)).trans hz⟩
  · obtain ⟨z, hz⟩ := z12
    exact ⟨z, (fo 12 (by omega)).trans hz⟩
theorem m_read (hJ : e.1 = .null ∨ ∃ w, e.1 = .float w) (hG : m_G e h q q8 gb F tp nn cap R A) (r1 : 64 * h.length + 528 * (tp + 2) + 448 * tp + 6 * (16384 - cap) + 60000 ≤ 64 * e.2.2.2.1) (r2 : ab_sz h + 58 * (tp + 2) + 27 * tp + 12 * (16384 - cap) + 80000 ≤ e.2.2.2.2.1) : xT e (d + 200) 37 0 [(0, .ref q)] [] h (fun o h' => ∃ v, o = .inl v ∧ (∃ z : Int32, v = some (.int z)) ∧ ∃ F' nn' cap' R' A', m_G e h' q q8 gb F' 0 nn' cap' R' A' ∧ m_st7 h h' q q8 R ∧ ((∀ j, j < 6 → R' j = R j) ∨ (∀ j, j < 6 → h.length ≤ R' j)) ∧ h.length ≤ h'.length ∧ cap ≤ cap' ∧ 64 * h'.length + 6 * cap ≤ 64 * h.length + 528 * (tp + 2) + 448 * tp + 64 + 6 * cap' ∧ ab_sz h' + 12 * cap ≤ ab_sz h + 58 * (tp + 2) + 27 * tp + 6 + 12 * cap') := by
  have hM : (x_mt e.1)[37]? = some xM37 := rfl
  have hq := hG.cell
  have hl := hG.len
  have htp := hG.tpl
  have hc8 := hG.2.2.2.2.2.2.2.1
  have hB := hG.2.2.2.2.2.2.2.2.2.1
  have hB8 := hG.2.2.2.2.2.2.2.2.1
  have hRl : ∀ j, j < 6 → R j < h.length := fun j hj => by
    obtain ⟨-, -, ⟨r0, r1, r2, r3, r4, r5⟩, -⟩ := hG.2.2.2.1
    rcases (show j = 0 ∨ j = 1 ∨ j = 2 ∨ j = 3 ∨ j = 4 ∨ j = 5 from by omega) with z | z | z | z | z | z <;> subst z
    · exact x_lt r0
    · exact x_lt r1
    · exact x_lt r2
    · exact x_lt r3
    · exact x_lt r4
    · exact x_lt r5
  refine xT.s1 hM rfl rfl ?_
  refine xT.s1 hM rfl rfl ?_
  refine xT.put hM rfl rfl hq (Or.inl rfl) (by rw [hl]; decide) (rfl) (Or.inl rfl) (fun h_1 F_1 eF eh up1 fb1 fo1 fl => ?_)
  replace hG := hG.put up1 fl (by decide) fb1 fo1
  replace hq := hG.cell
  replace hl := hG.len
  refine xT.s1 hM rfl rfl ?_
  refine xT.s1 hM rfl rfl ?_
  refine xT.put hM rfl rfl hq (Or.inl rfl) (by rw [hl]; decide) (rfl) (Or.inl rfl) (fun h_2 F_2 eF eh up2 fb2 fo2 fl => ?_)
  replace hG := hG.put up2 fl (by decide) fb2 fo2
  replace hq := hG.cell
  replace hl := hG.len
  refine xT.s1 hM rfl rfl ?_
  refine xT.s1 hM rfl rfl ?_
  refine xT.put hM rfl rfl hq (Or.inl rfl) (by rw [hl]; decide) (rfl) (Or.inl rfl) (fun h_3 F_3 eF eh up3 fb3 fo3 fl => ?_)
  replace hG := hG.put14 up3 fl fb3 fo3
  replace hq := hG.cell
  replace hl := hG.len
  refine xT.s1 hM rfl rfl ?_
  refine xT.s1 hM rfl rfl ?_
  refine xT.put hM rfl rfl hq (Or.inl rfl) (by rw [hl]; decide) (rfl) (Or.inl rfl) (fun h_4 F_4 eF eh up4 fb4 fo4 fl => ?_)
  replace hG := hG.put11 (a2 := 0) up4 fl fb4 fo4
  replace hq := hG.cell
  replace hl := hG.len
  refine xT.s1 hM rfl rfl ?_
  refine xT.s1 hM rfl rfl ?_
  refine xT.put hM rfl rfl hq (Or.inl rfl) (by rw [hl]; decide) (rfl) (Or.inl rfl) (fun h_5 F_5 eF eh up5 fb5 fo5 fl => ?_)
  replace hG := hG.put12 up5 fl fb5 fo5
  replace hq := hG.cell
  replace hl := hG.len
  have lk : h_5.length = h.length := by rw [up5.2.2.1, up4.2.2.1, up3.2.2.1, up2.2.2.1, up1.2.2.1]
  have sk : ab_sz h_5 = ab_sz h := by rw [up5.2.2.2, up4.2.2.2, up3.2.2.2, up2.2.2.2, up1.2.2.2]
  have frk : ∀ j, j ≠ q → h_5[j]? = h[j]? := fun j hj => by rw [up5.2.1 _ hj, up4.2.1 _ hj, up3.2.1 _ hj, up2.2.1 _ hj, up1.2.1 _ hj]
  have f0 : F_5[0]? = some (.int 0) := by rw [fo5 0 (by decide), fo4 0 (by decide), fo3 0 (by decide), fo2 0 (by decide)]; exact fb1
  have f11 : F_5[11]? = some (.int (nI 0)) := (fo5 11 (by decide)).trans fb4
  have f12 : F_5[12]? = some (.int (nI 0)) := fb5
  obtain ⟨⟨fr, a, t, w, hX, hw⟩, hC, ⟨-, -, -⟩, hE, -, -, -, -, -, -, bz⟩ := id hG
  have hX0 : m_X h_5 h_5 q q8 gb F_5 F_5 tp fr 0 t w := by
    obtain ⟨⟨x1, x2, x3, x4, x5, x6, x7, x8, x9, x10, x11, x12⟩, x13⟩ := hX
    exact ⟨⟨x1, x2, x3, x4, x5, x6, x7, x8, x9, f11, x11, x12⟩, x13⟩
  refine xT.s1 hM rfl rfl ?_
  rw [show d + 200 = (d + 191) + 8 + 1 from rfl]
  refine xT.go hM rfl rfl rfl rfl rfl rfl (xc_virt rfl rfl rfl hq ⟨rfl, Nat.le_of_ble_eq_true rfl, rfl, Or.inl rfl⟩) rfl ⟨Nat.le_of_ble_eq_true rfl, Nat.le_of_ble_eq_true rfl, by decide⟩ (m_advance hJ hX0 hC hw ⟨by omega, by omega⟩ (by omega)) (fun v h4 hv => ?_)
  obtain ⟨rfl, fr4, a4, F4, t4, w4, hX4, hk4, p1, p2, p3, p4, p5, p6, p7⟩ := hv
  have hP4 : m_P e h4 q q8 gb F4 tp fr4 a4 t4 w4 (nI 0) := ⟨hX4.self, hk4, hX4.C hq hC, p1, by
    rcases p4 with z | z
    · exact Or.inl ⟨z.1, z.2.1, z.2.2.1⟩
    · exact Or.inr ⟨z.2.2.1, z.2.1, p3, z.2.2.2.1⟩, (hX4.2.1 12 (by omega)).trans f12⟩
  have hps : m_res gb tp 0 ≤ m_ps tp a4 t4 := by
    unfold m_ps
    rcases p4 with ⟨z1, -, -, z4⟩ | ⟨-, -, z3, -, z5⟩
    · rw [z4]; omega
    · rw [if_neg z3]; omega
  have hps4 := hP4.ps
  have hfr4 := hP4.frl
  have hrs4 := m_res_le hP4
  have hE4 : m_E h4 q F4 0 cap R A := by
    obtain ⟨⟨-, -, y3⟩, ⟨g0, g1, g2, g3, g4, g5⟩, ⟨r0, r1, r2, r3, r4, r5⟩, ns, cs⟩ := hE
    exact ⟨⟨hP4.cell, hP4.len, (hX4.2.1 14 (by omega)).trans y3⟩, ⟨(hX4.2.1 15 (by omega)).trans g0, (hX4.2.1 16 (by omega)).trans g1, (hX4.2.1 17 (by omega)).trans g2, (hX4.2.1 18 (by omega)).trans g3, (hX4.2.1 19 (by omega)).trans g4, (hX4.2.1 20 (by omega)).trans g5⟩, ⟨hX4.2.2 _ _ r0 (x_neq r0 hq (by simp)), hX4.2.2 _ _ r1 (x_neq r1 hq (by simp)), hX4.2.2 _ _ r2 (x_neq r2 hq (by simp)), hX4.2.2 _ _ r3 (x_neq r3 hq (by simp)), hX4.2.2 _ _ r4 (x_neq r4 hq (by simp)), hX4.2.2 _ _ r5 (x_neq r5 hq (by simp))⟩, ns, cs⟩
  have i0 : F_5[0]? = some (.int 0) := f0
  have i3 := (hG.2.2.1).2.1
  have st4 : m_st7 h h4 q q8 R := fun k x hk n1 _ _ => hX4.2.2 k x ((frk k n1).trans hk) n1
  /- a later state is whole -/
  have mk : ∀ (h5 : ab_H) (F5 : List Value) (fr5 a5 : Nat) (t5 : Int32) (w5 : Value) (o5 : Int32) (c z : Nat), m_P e h5 q q8 gb F5 tp fr5 a5 t5 w5 o5 → m_N h4 q F4 c z h5 F5 → m_G e h5 q q8 gb F5 tp 0 cap R A ∧ m_st7 h h5 q q8 R ∧ F5[0]? = some (.int 0) := by
    intro h5 F5 fr5 a5 t5 w5 o5 c z hP5 hN5
    obtain ⟨⟨-, -, y3⟩, ⟨g0, g1, g2, g3, g4, g5⟩, ⟨r0, r1, r2, r3, r4, r5⟩, ns, cs⟩ := hE4
    have hq4 := hP4.cell
    refine ⟨⟨⟨fr5, a5, t5, w5, hP5.1, hP5.2.1.2.1⟩, hP5.2.2.1, ⟨⟨_, (hN5.1 0 (by omega)).trans ((hX4.2.1 0 (by omega)).trans i0)⟩, ?_, ⟨_, hP5.2.2.2.2.2⟩⟩, ⟨⟨hP5.cell, hP5.len, (hN5.1 14 (by omega)).trans y3⟩, ⟨(hN5.1 15 (by omega)).trans g0, (hN5.1 16 (by omega)).trans g1, (hN5.1 17 (by omega)).trans g2, (hN5.1 18 (by omega)).trans g3, (hN5.1 19 (by omega)).trans g4, (hN5.1 20 (by omega)).trans g5⟩, ⟨hN5.2.1 _ _ r0 (x_neq r0 hq4 (by simp)), hN5.2.1 _ _ r1 (x_neq r1 hq4 (by simp)), hN5.2.1 _ _ r2 (x_neq r2 hq4 (by simp)), hN5.2.1 _ _ r3 (x_neq r3 hq4 (by simp)), hN5.2.1 _ _ r4 (x_neq r4 hq4 (by simp)), hN5.2.1 _ _ r5 (x_neq r5 hq4 (by simp))⟩, ns, cs⟩, fun i hi => absurd hi (Nat.not_lt_zero i), fun i hi => absurd hi (Nat.not_lt_zero i), Nat.zero_le _, hc8, hB8, by have := hN5.2.2.2.1; omega, fun x hx => bz x (hx.imp (fun y => ((hN5.1 4 (by omega)).trans (hX4.2.1 4 (by omega))).symm.trans y) (fun y => ((hN5.1 5 (by omega)).trans (hX4.2.1 5 (by omega))).symm.trans y))⟩, fun k x hk n1 n2 n3 => hN5.2.1 k x (st4 k x hk n1 n2 n3) n1, (hN5.1 0 (by omega)).trans ((hX4.2.1 0 (by omega)).trans i0)⟩
    obtain ⟨z3, y⟩ := i3
    exact ⟨z3, (hN5.1 3 (by omega)).trans ((hX4.2.1 3 (by omega)).trans y)⟩
  have ctch : ∀ (xq : Nat) (h5 : ab_H) (F5 : List Value) (fr5 a5 : Nat) (t5 : Int32) (w5 : Value) (o5 : Int32) (c z : Nat), m_P e h5 q q8 gb F5 tp fr5 a5 t5 w5 o5 → m_N h4 q F4 c z h5 F5 → 8 * h.length + 33 * m_res gb tp 0 + c ≤ 8 * h.length + 66 * (tp + 2) + 56 * tp + 8 → 29 * m_res gb tp 0 + z ≤ 58 * (tp + 2) + 27 * tp + 6 → xT e (d + 191 + 8 + 1) 37 59 [(0, .ref q)] [.ref xq] h5 (fun o h' => ∃ v, o = .inl v ∧ (∃ z : Int32, v = some (.int z)) ∧ ∃ F' nn' cap' R' A', m_G e h' q q8 gb F' 0 nn' cap' R' A' ∧ m_st7 h h' q q8 R ∧ ((∀ j, j < 6 → R' j = R j) ∨ (∀ j, j < 6 → h.length ≤ R' j)) ∧ h.length ≤ h'.length ∧ cap ≤ cap' ∧ 64 * h'.length + 6 * cap ≤ 64 * h.length + 528 * (tp + 2) + 448 * tp + 64 + 6 * cap' ∧ ab_sz h' + 12 * cap ≤ ab_sz h + 58 * (tp + 2) + 27 * tp + 6 + 12 * cap') := by
    intro xq h5 F5 fr5 a5 t5 w5 o5 c z hP5 hN5 hc hz
    obtain ⟨hG, hst, hF0⟩ := mk h5 F5 fr5 a5 t5 w5 o5 c z hP5 hN5
    have hq := hG.cell
    have hl := hG.len
    have j1 := hN5.2.2.1
    have j2 := hN5.2.2.2.1
    have j3 := hN5.2.2.2.2
    have f7 := hP5.1.1.2.2.2.2.2.1
    refine xT.s1 hM rfl rfl ?_
    refine xT.s1 hM rfl rfl ?_
    refine xT.s1 hM rfl rfl ?_
    refine xT.s2 hM rfl rfl (x2_get rfl (Or.inl rfl) hq f7) ?_
    refine xT.put hM rfl rfl hq (Or.inl rfl) (by rw [hl]; decide) (rfl) (Or.inl rfl) (fun h_6 F_6 eF eh up6 fb6 fo6 fl => ?_)
    replace hG := hG.put up6 fl (by decide) fb6 fo6
    replace hq := hG.cell
    replace hl := hG.len
    refine xT.s1 hM rfl rfl ?_
    refine xT.s1 hM rfl rfl ?_
    refine xT.put hM rfl rfl hq (Or.inl rfl) (by rw [hl]; decide) (rfl) (Or.inl rfl) (fun h_7 F_7 eF eh up7 fb7 fo7 fl => ?_)
    replace hG := hG.put14 up7 fl fb7 fo7
    replace hq := hG.cell
    replace hl := hG.len
    refine xT.s1 hM rfl rfl ?_
    refine xT.s1 hM rfl rfl ?_
    refine xT.put hM rfl rfl hq (Or.inl rfl) (by rw [hl]; decide) (rfl) (Or.inl rfl) (fun h_8 F_8 eF eh up8 fb8 fo8 fl => ?_)
    replace hG := hG.put up8 fl (by decide) fb8 fo8
    replace hq := hG.cell
    replace hl := hG.len
    refine xT.s1 hM rfl rfl ?_
    refine xT.s1 hM rfl rfl ?_
    refine xT.put hM rfl rfl hq (Or.inl rfl) (by rw [hl]; decide) (rfl) (Or.inl rfl) (fun h_9 F_9 eF eh up9 fb9 fo9 fl => ?_)
    replace hG := hG.put2 (tp2 := 0) up9 fl (by omega) fb9 fo9
    replace hq := hG.cell
    replace hl := hG.len
    have f0x : F_9[0]? = some (.int (Int32.ofInt 1)) := (fo9 0 (by decide)).trans fb8
    refine xT.s1 hM rfl rfl ?_
    refine xT.s2 hM rfl rfl (x2_get rfl (Or.inl rfl) hq f0x) ?_
    refine xT.s1 hM rfl rfl ?_
    refine xT.brF (by decide) ?_
    refine xT.s1 hM rfl rfl ?_
    refine xT.s1 hM rfl rfl ?_
    have lx : h_9.length = h5.length := by rw [up9.2.2.1, up8.2.2.1, up7.2.2.1, up6.2.2.1]
    have sx : ab_sz h_9 = ab_sz h5 := by rw [up9.2.2.2, up8.2.2.2, up7.2.2.2, up6.2.2.2]
    exact xT.ret hM rfl rfl rfl rfl (⟨_, rfl, ⟨_, rfl⟩, F_9, 0, cap, R, A, hG, fun k x hk n1 n2 n3 => by rw [up9.2.1 k n1, up8.2.1 k n1, up7.2.1 k n1, up6.2.1 k n1]; exact hst k x hk n1 n2 n3, Or.inl (fun _ _ => rfl), by omega, Nat.le_refl _, by omega, by omega⟩)
  refine xT.s1 hM rfl rfl ?_
  have hval := (m_value (q := q) (q8 := q8) (gb := gb) (tp := tp) hJ (tp + 1)).1 (d + 65) 0 fr4 a4 F4 t4 w4 h4 hP4 ⟨by omega, by omega⟩ (by omega) (by omega)
  rw [show d + 65 + 2 * (60 - 0) + 14 = d + 191 + 8 from by omega] at hval
  refine xT.call hM rfl rfl rfl rfl rfl rfl (xc_virt rfl rfl rfl hP4.cell ⟨rfl, Nat.le_of_ble_eq_true rfl, rfl, Or.inl rfl⟩) rfl ⟨Nat.le_of_ble_eq_true rfl, Nat.le_of_ble_eq_true rfl, by decide⟩ hval (fun v h5 hv => ?_) (fun ce xq h5 he => ?_)
  rotate_left
  · obtain ⟨c, z, ⟨rfl, ⟨fs, hfs⟩, fr5, a5, F5, t5, w5, o5, hP5, hN5⟩, k2, k3⟩ := he
    exact Or.inr ⟨by decide, by unfold ab_isx; rw [hfs]; rfl, 59, rfl, ctch xq h5 F5 fr5 a5 t5 w5 o5 c z hP5 hN5 (by omega) (by omega)⟩
  obtain ⟨b5, s5, fr5, a5, F5, t5, w5, c5, z5, rfl, hP5, hT5, q1, q2, q3, hN5, q4, q5⟩ := hv
  have hps5 := hP5.ps
  have hfr5 := hP5.frl
  have j1 := hN5.2.2.1
  have j2 := hN5.2.2.2.1
  have j3 := hN5.2.2.2.2
  refine xT.s1 hM rfl rfl ?_
  refine xT.s1 hM rfl rfl ?_
  refine xT.s1 hM rfl rfl ?_
  refine xT.s2 hM rfl rfl (x2_get rfl (Or.inl rfl) hP5.cell hP5.1.1.2.2.2.2.1) ?_
  have j47 : ∀ b : Int32, xT e (d + 191 + 8 + 1) 37 47 [(1, .ref b5), (0, .ref q)] [.int b, .ref q] h5 (fun o h' => ∃ v, o = .inl v ∧ (∃ z : Int32, v = some (.int z)) ∧ ∃ F' nn' cap' R' A', m_G e h' q q8 gb F' 0 nn' cap' R' A' ∧ m_st7 h h' q q8 R ∧ ((∀ j, j < 6 → R' j = R j) ∨ (∀ j, j < 6 → h.length ≤ R' j)) ∧ h.length ≤ h'.length ∧ cap ≤ cap' ∧ 64 * h'.length + 6 * cap ≤ 64 * h.length + 528 * (tp + 2) + 448 * tp + 64 + 6 * cap' ∧ ab_sz h' + 12 * cap ≤ ab_sz h + 58 * (tp + 2) + 27 * tp + 6 + 12 * cap') := by
    intro b
    refine xT.call hM rfl rfl rfl rfl rfl rfl (xc_virt rfl rfl rfl hP5.cell ⟨rfl, Nat.le_of_ble_eq_true rfl, rfl, Or.inl rfl⟩) rfl ⟨Nat.le_of_ble_eq_true rfl, Nat.le_of_ble_eq_true rfl, by decide⟩ (m_can (b := b) (by omega) (by omega)) (fun v h6 hv => ?_) (fun ce xq h6 he => ?_)
    rotate_left
    · obtain ⟨-, ⟨hce, ⟨fs, hfs⟩, fr6, a6, F6, t6, w6, o6, hP6, hN6⟩⟩ : True ∧ m_Ex e h5 q q8 gb F5 tp 8 6 ce xq h6 := ⟨trivial, m_Ex.of hP5 he.2.1 he.2.2.1 he.2.2.2⟩
      subst hce
      exact Or.inr ⟨by decide, by unfold ab_isx; rw [hfs]; rfl, 59, rfl, xT.weak (L := [(0, .ref q)]) ⟨by simp, by simp⟩ (ctch xq h6 F6 fr6 a6 t6 w6 o6 _ _ hP6 (hN5.tr hN6 (Nat.le_refl _) (Nat.le_refl _)) (by omega) (by omega))⟩
    obtain ⟨rfl, hh6, hbn⟩ := hv
    subst h6
    refine xT.s1 hM rfl rfl ?_
    refine xT.s1 hM rfl rfl ?_
    refine xT.s1 hM rfl rfl ?_
    obtain ⟨hG5, hst5, hF05⟩ := mk h5 F5 fr5 a5 t5 w5 _ _ _ hP5 hN5
    have hlay := m_lay e q 61 (d + 137) h4.length h5.length b5 s5 0 cap F5 R A h5 (Int32.ofInt (-1)) hT5 (Nat.le_refl _) hG5.2.2.2.1 (fun i hi => absurd hi (Nat.not_lt_zero i)) (Or.inl (x_lt hP4.cell)) (fun j hj => Or.inl (by have := hRl j hj; omega)) (by omega) hc8 (by omega) (by omega)
    rw [show d + 137 + 61 + 1 = d + 191 + 8 from rfl] at hlay
    refine xT.go hM rfl rfl rfl rfl rfl rfl (xc_virt rfl rfl rfl hP5.cell ⟨rfl, Nat.le_of_ble_eq_true rfl, rfl, Or.inl rfl⟩) rfl ⟨Nat.le_of_ble_eq_true rfl, Nat.le_of_ble_eq_true rfl, by decide⟩ (hlay) (fun v h7 hv => ?_)
    obtain ⟨rfl, nn7, F7, cap7, R7, A7, hE7, hR7, v1, v2, hnd7, hab7, hct7⟩ := hv
    have hG7 : m_G e h7 q q8 gb F7 tp nn7 cap7 R7 A7 := by
      obtain ⟨⟨fx, ax, tx, wx, hXx, hwx⟩, ⟨qs, qk, sf, kf, c1, c2, c3, c4, c5, c6⟩, ⟨⟨z0, y0⟩, ⟨z3, y3⟩, ⟨z12, y12⟩⟩, hEx, -⟩ := id hG5
      obtain ⟨⟨x1, x2, x3, x4, x5, x6, ⟨x7', x7⟩, ⟨x8', x8⟩, x9, x10, x11, x12⟩, -⟩ := hXx
      have fF := hR7.2.2.1
      have hrow : ∀ (k n : Nat) (f : Nat → Value), h5[k]? = some (.inl (0, n, f)) → h7[k]? = some (.inl (0, n, f)) := (hR7.kp hEx (l := 0) (u := 0) (Or.inr (Nat.zero_le _)) (fun j hj => Or.inr (Nat.zero_le _))).2.2
      have h8l := x_lt x11
      have bz5 := hG5.2.2.2.2.2.2.2.2.2.2
      obtain ⟨-, -, ⟨r0, r1, r2, r3, r4, r5⟩, -⟩ := id hEx
      have keep : ∀ (k n : Nat) (f : Nat → Value), h5[k]? = some (.inl (3, n, f)) → k ≠ R 5 → h7[k]? = some (.inl (3, n, f)) := fun k n f hk hr => hR7.2.2.2.1 k _ hk (x_neq hk x1 (by simp)) (x_neq hk r0 (by simp)) (x_neq hk r1 (by simp)) (x_neq hk r2 (by simp)) (x_neq hk r3 (by simp)) (x_neq hk r4 (by simp)) hr
      refine ⟨⟨fx, ax, tx, wx, ⟨⟨hE7.1.1, hE7.1.2.1, (fF 1 (by omega)).trans x3, (fF 2 (by omega)).trans x4, (fF 6 (by omega)).trans x5, (fF 7 (by omega)).trans x6, ⟨_, (fF 8 (by omega)).trans x7⟩, ⟨_, (fF 9 (by omega)).trans x8⟩, (fF 10 (by omega)).trans x9, (fF 11 (by omega)).trans x10, hrow _ _ _ x11, x12⟩, fun _ _ => rfl, fun _ _ hk _ => hk⟩, ?_⟩, ⟨qs, qk, sf, kf, (fF 4 (by omega)).trans c1, (fF 5 (by omega)).trans c2, keep _ _ _ c3 (bz5 qs (Or.inl c1)), keep _ _ _ c4 (bz5 qk (Or.inr c2)), c5, c6⟩, ⟨⟨z0, (fF 0 (by omega)).trans y0⟩, ⟨z3, (fF 3 (by omega)).trans y3⟩, ⟨z12, (fF 12 (by omega)).trans y12⟩⟩, hE7, hnd7, fun i hi => hct7 i (Nat.zero_le _) hi, by omega, hR7.2.2.2.2.2.2.2.2.2, hB8, by have := hR7.2.2.2.2.2.1; omega, fun x hx => ?_⟩
      · rcases hwx with z | ⟨n, z⟩
        · exact Or.inl z
        · exact Or.inr ⟨n, hR7.str hEx z⟩
      · have hx5 : F5[4]? = some (.ref x) ∨ F5[5]? = some (.ref x) := hx.imp (fun y => (fF 4 (by omega)).symm.trans y) (fun y => (fF 5 (by omega)).symm.trans y)
        rcases hR7.2.2.2.2.1 with z | z
        · rw [z 5 (by omega)]; exact bz5 x hx5
        · have := z 5 (by omega)
          rcases hx5 with y | y
          · rw [c1] at y; cases y; have := x_lt c3; omega
          · rw [c2] at y; cases y; have := x_lt c4; omega
    have t6 := hR7.2.2.2.2.2.1
    have t7 := hR7.2.2.2.2.2.2.1
    have t8 := hR7.2.2.2.2.2.2.2.1
    have t9 := hR7.2.2.2.2.2.2.2.2.1
    have f07 := (hR7.2.2.1 0 (by omega)).trans hF05
    have hG := hG7
    have hq := hG.cell
    have hl := hG.len
    refine xT.s1 hM rfl rfl ?_
    refine xT.s1 hM rfl rfl ?_
    refine xT.s1 hM rfl rfl ?_
    refine xT.put hM rfl rfl hq (Or.inl rfl) (by rw [hl]; decide) (rfl) (Or.inl rfl) (fun h_10 F_10 eF eh up10 fb10 fo10 fl => ?_)
    replace hG := hG.put2 (tp2 := 0) up10 fl (by omega) fb10 fo10
    replace hq := hG.cell
    replace hl := hG.len
    replace f07 := (fo10 0 (by decide)).trans f07
    have f14 := hG.f14
    refine xT.s1 hM rfl rfl ?_
    refine xT.s2 hM rfl rfl (x2_get rfl (Or.inl rfl) hq f07) ?_
    refine xT.s1 hM rfl rfl ?_
    refine xT.brT (by decide) ?_
    refine xT.s1 hM rfl rfl ?_
    refine xT.s2 hM rfl rfl (x2_get rfl (Or.inl rfl) hq f14) ?_
    have hRx : (∀ j, j < 6 → R7 j = R j) ∨ (∀ j, j < 6 → h.length ≤ R7 j) := by
      rcases hR7.2.2.2.2.1 with z | z
      · exact Or.inl z
      · exact Or.inr (fun j hj => by have := z j hj; omega)
    have lx := up10.2.2.1
    have sx := up10.2.2.2
    exact xT.ret hM rfl rfl rfl rfl (⟨_, rfl, ⟨_, rfl⟩, F_10, nn7, cap7, R7, A7, hG, fun k x hk n1 n2 n3 => (up10.2.1 k n1).trans (hR7.2.2.2.1 k x (hst5 k x hk n1 n2 n3) n1 (n3 0 (by omega)) (n3 1 (by omega)) (n3 2 (by omega)) (n3 3 (by omega)) (n3 4 (by omega)) (n3 5 (by omega))), hRx, by omega, by omega, by omega, by omega⟩)
  refine xT.s1 hM rfl rfl ?_
  refine xT.br (fun bt => ?_) (fun bt => ?_)
  · refine xT.s1 hM rfl rfl ?_
    refine xT.s1 hM rfl rfl ?_
    exact j47 _
  · refine xT.s1 hM rfl rfl ?_
    exact j47 _
end XMF
