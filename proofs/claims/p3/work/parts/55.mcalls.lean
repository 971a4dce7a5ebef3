/-! the reference: between its calls -/
/-- what holds of the reference's object between two calls -/
def m_G (e : xE) (h : ab_H) (q q8 : Nat) (gb : Nat → Int32) (F : List Value) (tp nn cap : Nat) (R : Nat → Nat) (A : m_AT) : Prop := (∃ fr a t w, m_X h h q q8 gb F F tp fr a t w ∧ (w = .null ∨ ∃ n, j_str e h w n)) ∧ m_C e h F ∧ ((∃ z, F[0]? = some (.int z)) ∧ (∃ z, F[3]? = some (.int z)) ∧ (∃ z, F[12]? = some (.int z))) ∧ m_E h q F nn cap R A ∧ (∀ i, i < nn → m_nd e h A i) ∧ (∀ i, i < nn → m_ct A nn i) ∧ nn ≤ 8192 ∧ cap ≤ 16384 ∧ q8 < e.2.2.2.2.2 ∧ e.2.2.2.2.2 ≤ h.length ∧ ∀ (x : Nat), (F[4]? = some (.ref x) ∨ F[5]? = some (.ref x)) → x ≠ R 5
/-- cells that stay over a call of the reference -/
def m_st7 (h h' : ab_H) (q q8 : Nat) (R : Nat → Nat) : Prop := ∀ (k : Nat) (x : ab_E), h[k]? = some x → k ≠ q → k ≠ q8 → (∀ j, j < 6 → k ≠ R j) → h'[k]? = some x
section XMC
variable {e : xE} {d q q8 tp nn cap : Nat} {gb : Nat → Int32} {h h' : ab_H} {F F' : List Value} {R : Nat → Nat} {A : m_AT}
/-- fields 0 and 3 may change at will -/
theorem m_G.put {b : Nat} {v : Int32} (hG : m_G e h q q8 gb F tp nn cap R A) (u : x_up h q h' (.inr (3, F'))) (hl : F'.length = F.length) (hb : b = 0 ∨ b = 3) (fb : F'[b]? = some (.int v)) (fo : ∀ i, i ≠ b → F'[i]? = F[i]?) : m_G e h' q q8 gb F' tp nn cap R A := by
  obtain ⟨⟨fr, a, t, w, hX, hw⟩, hC, ⟨z0, z3, z12⟩, hE, hnd, hct, n8, c8, bq, b8, bz⟩ := hG
  have hq := hX.1.1
  have frq : ∀ (k : Nat) (x : ab_E), h[k]? = some x → k ≠ q → h'[k]? = some x := fun k x hk hn => (u.2.1 k hn).trans hk
  obtain ⟨⟨-, hl0, f1, f2, f6, f7, ⟨y8, f8⟩, ⟨y9, f9⟩, f10, f11, h8, htp⟩, -⟩ := hX
  obtain ⟨qs, qk, sf, kf, c1, c2, c3, c4, c5, c6⟩ := hC
  obtain ⟨⟨e1, e2, e3⟩, ⟨g0, g1, g2, g3, g4, g5⟩, ⟨r0, r1, r2, r3, r4, r5⟩, ns, cs⟩ := hE
  refine ⟨⟨fr, a, t, w, ⟨⟨u.1, hl.trans hl0, (fo 1 (by omega)).trans f1, (fo 2 (by omega)).trans f2, (fo 6 (by omega)).trans f6, (fo 7 (by omega)).trans f7, ⟨_, (fo 8 (by omega)).trans f8⟩, ⟨_, (fo 9 (by omega)).trans f9⟩, (fo 10 (by omega)).trans f10, (fo 11 (by omega)).trans f11, frq _ _ h8 (x_neq h8 hq (by simp)), htp⟩, fun _ _ => rfl, fun _ _ hk _ => hk⟩, ?_⟩, ⟨qs, qk, sf, kf, (fo 4 (by omega)).trans c1, (fo 5 (by omega)).trans c2, frq _ _ c3 (x_neq c3 hq (by simp)), frq _ _ c4 (x_neq c4 hq (by simp)), c5, c6⟩, ⟨?_, ?_, ?_⟩, ⟨⟨u.1, hl.trans e2, (fo 14 (by omega)).trans e3⟩, ⟨(fo 15 (by omega)).trans g0, (fo 16 (by omega)).trans g1, (fo 17 (by omega)).trans g2, (fo 18 (by omega)).trans g3, (fo 19 (by omega)).trans g4, (fo 20 (by omega)).trans g5⟩, ⟨frq _ _ r0 (x_neq r0 hq (by simp)), frq _ _ r1 (x_neq r1 hq (by simp)), frq _ _ r2 (x_neq r2 hq (by simp)), frq _ _ r3 (x_neq r3 hq (by simp)), frq _ _ r4 (x_neq r4 hq (by simp)), frq _ _ r5 (x_neq r5 hq (by simp))⟩, ns, cs⟩, fun i hi => ?_, hct, n8, c8, bq, by rw [u.2.2.1]; exact b8, fun x hx => bz x (hx.imp (fun y => (fo 4 (by omega)).symm.trans y) (fun y => (fo 5 (by omega)).symm.trans y))⟩
  · rcases hw with z | ⟨n, z⟩
    · exact Or.inl z
    · exact Or.inr ⟨n, z.kept frq hq (by decide)⟩
  · rcases hb with rfl | rfl
    · exact ⟨_, fb⟩
    · obtain ⟨z, hz⟩ := z0
      exact ⟨z, (fo 0 (by omega)).trans hz⟩
  · rcases hb with rfl | rfl
    · obtain ⟨z, hz⟩ := z3
      exact ⟨z, (fo 3 (by omega)).trans hz⟩
    · exact ⟨_, fb⟩
  · obtain ⟨z, hz⟩ := z12
    exact ⟨z, (fo 12 (by omega)).trans hz⟩
  · obtain ⟨⟨b, G, zz, tx, w1, w2, w3, w4, w5⟩, w6⟩ := hnd i hi
    refine ⟨⟨b, G, zz, tx, w1, frq _ _ w2 (x_neq w2 hq (by simp)), w3, w4, fun a1 a2 => ?_⟩, ?_⟩
    · obtain ⟨m, y⟩ := w5 a1 a2
      exact ⟨m, y.kept frq hq (by decide)⟩
    · rcases w6 with y | ⟨m, y⟩
      · exact Or.inl y
      · exact Or.inr ⟨m, y.kept frq hq (by decide)⟩
theorem m_G.cell (hG : m_G e h q q8 gb F tp nn cap R A) : h[q]? = some (.inr (3, F)) := hG.2.2.2.1.1.1
theorem m_G.len (hG : m_G e h q q8 gb F tp nn cap R A) : F.length = 21 := hG.2.2.2.1.1.2.1
theorem m_G.f2 (hG : m_G e h q q8 gb F tp nn cap R A) : F[2]? = some (.int (nI tp)) := by
  obtain ⟨⟨fr, a, t, w, hX, -⟩, -⟩ := hG
  exact hX.1.2.2.2.1
theorem m_G.f14 (hG : m_G e h q q8 gb F tp nn cap R A) : F[14]? = some (.int (nI nn)) := hG.2.2.2.1.1.2.2
theorem m_G.tpl (hG : m_G e h q q8 gb F tp nn cap R A) : tp ≤ 4096 := by
  obtain ⟨⟨fr, a, t, w, hX, -⟩, -⟩ := hG
  exact hX.lt
/-- how a call that asks ends -/
def m_AK (e : xE) (h : ab_H) (q q8 : Nat) (gb : Nat → Int32) (tp nn cap : Nat) (R : Nat → Nat) (A : m_AT) (h' : ab_H) : Prop := ∃ F', m_G e h' q q8 gb F' tp nn cap R A ∧ (∀ k, k ≠ q → h'[k]? = h[k]?) ∧ h'.length = h.length ∧ ab_sz h' = ab_sz h
theorem m_fail {c : Int32} (hG : m_G e h q q8 gb F tp nn cap R A) : xT e d 12 0 [(0, .ref q), (1, .int c)] [] h (fun o h' => ∃ v, o = .inl v ∧ v = some (.int 0) ∧ ∃ F', m_G e h' q q8 gb F' tp nn cap R A ∧ (∀ k, k ≠ q → h'[k]? = h[k]?) ∧ h'.length = h.length ∧ ab_sz h' = ab_sz h ∧ F'[0]? = some (.int c)) := by
  have hM : (x_mt e.1)[12]? = some xM12 := rfl
  have hq := hG.cell
  have hl := hG.len
  have f2 := hG.f2
  have f14 := hG.f14
  obtain ⟨-, -, ⟨-, ⟨z3, f3⟩, -⟩, ⟨-, ⟨g0, g1, g2, g3, g4, g5⟩, ⟨r0, r1, r2, r3, r4, r5⟩, -, ⟨cn1, cn2, cn3⟩⟩, hnd, hct, n8, c8, -⟩ := id hG
  refine xT.s1 hM rfl rfl ?_
  refine xT.s1 hM rfl rfl ?_
  refine xT.put hM rfl rfl hq (Or.inl rfl) (by rw [hl]; decide) (rfl) (Or.inl rfl) (fun h_1 F_1 eF eh up1 fb fo fl => ?_)
  replace hG := hG.put up1 fl (by decide) fb fo
  have hq := hG.cell
  have hl := hG.len
  have f2 := hG.f2
  have f14 := hG.f14
  obtain ⟨-, -, ⟨-, ⟨z3, f3⟩, -⟩, ⟨-, ⟨g0, g1, g2, g3, g4, g5⟩, ⟨r0, r1, r2, r3, r4, r5⟩, -, ⟨cn1, cn2, cn3⟩⟩, hnd, hct, n8, c8, -⟩ := id hG
  refine xT.s1 hM rfl rfl ?_
  exact xT.ret hM rfl rfl rfl rfl (⟨_, rfl, rfl, F_1, hG, up1.2.1, up1.2.2.1, up1.2.2.2, fb⟩)
theorem m_thrown {z : Int32} (hq : h[q]? = some (.inr (3, F))) (hz : F[0]? = some (.int z)) : xT e d 11 0 [(0, .ref q)] [] h (fun o h' => ∃ v, o = .inl v ∧ v = some (.int z) ∧ h' = h) := by
  have hM : (x_mt e.1)[11]? = some xM11 := rfl
  refine xT.s1 hM rfl rfl ?_
  refine xT.s2 hM rfl rfl (x2_get rfl (Or.inl rfl) hq hz) ?_
  exact xT.ret hM rfl rfl rfl rfl (⟨_, rfl, rfl, rfl⟩)
theorem m_out {c : Int32} (hG : m_G e h q q8 gb F tp nn cap R A) : xT e d 39 0 [(0, .ref q), (1, .int c)] [] h (fun o h' => ∃ v, o = .inl v ∧ (∃ b : Int32, v = some (.int b) ∧ (b = 0 → ∃ j, j < nn ∧ c = nI j)) ∧ h' = h) := by
  have hM : (x_mt e.1)[39]? = some xM39 := rfl
  have hq := hG.cell
  have hl := hG.len
  have f2 := hG.f2
  have f14 := hG.f14
  obtain ⟨-, -, ⟨-, ⟨z3, f3⟩, -⟩, ⟨-, ⟨g0, g1, g2, g3, g4, g5⟩, ⟨r0, r1, r2, r3, r4, r5⟩, -, ⟨cn1, cn2, cn3⟩⟩, hnd, hct, n8, c8, -⟩ := id hG
  refine xT.s1 hM rfl rfl ?_
  refine xT.s1 hM rfl rfl ?_
  refine xT.br (fun b0 => ?_) (fun b0 => ?_)
  · refine xT.s1 hM rfl rfl ?_
    refine xT.s1 hM rfl rfl ?_
    exact xT.ret hM rfl rfl rfl rfl (⟨_, rfl, ⟨_, rfl, fun z => absurd z (by decide)⟩, rfl⟩)
  · refine xT.s1 hM rfl rfl ?_
    refine xT.s1 hM rfl rfl ?_
    refine xT.s2 hM rfl rfl (x2_get rfl (Or.inl rfl) hq f14) ?_
    refine xT.s1 hM rfl rfl ?_
    refine xT.br (fun b1 => ?_) (fun b1 => ?_)
    · obtain ⟨j, hj, rfl⟩ := nI_of b0
      refine xT.s1 hM rfl rfl ?_
      exact xT.ret hM rfl rfl rfl rfl (⟨_, rfl, ⟨_, rfl, fun _ => ⟨j, (nI_ltI hj (by omega)).mp b1, rfl⟩⟩, rfl⟩)
    · refine xT.s1 hM rfl rfl ?_
      refine xT.s1 hM rfl rfl ?_
      exact xT.ret hM rfl rfl rfl rfl (⟨_, rfl, ⟨_, rfl, fun z => absurd z (by decide)⟩, rfl⟩)
theorem m_units {j : Nat} (hG : m_G e h q q8 gb F tp nn cap R A) (hj : j < nn) : xT e (d + 2) 40 0 [(0, .ref q), (1, .int (nI j))] [] h (fun o h' => ∃ v, o = .inl v ∧ (∃ m, v = some (.int (nI m)) ∧ (m = 0 ∨ ∃ b Gv tx, m_va A j = .ref b ∧ h[b]? = some (.inr (11, Gv)) ∧ Gv[4]? = some tx ∧ j_str e h tx m)) ∧ h' = h) := by
  have hM : (x_mt e.1)[40]? = some xM40 := rfl
  have hq := hG.cell
  have hl := hG.len
  have f2 := hG.f2
  have f14 := hG.f14
  obtain ⟨-, -, ⟨-, ⟨z3, f3⟩, -⟩, ⟨-, ⟨g0, g1, g2, g3, g4, g5⟩, ⟨r0, r1, r2, r3, r4, r5⟩, -, ⟨cn1, cn2, cn3⟩⟩, hnd, hct, n8, c8, -⟩ := id hG
  obtain ⟨⟨b, Gv, zv, tx, v1, v2, v3, v4, v5⟩, v6⟩ := hnd j hj
  refine xT.s1 hM rfl rfl ?_
  refine xT.s2 hM rfl rfl (x2_get rfl (Or.inl rfl) hq g1) ?_
  refine xT.s1 hM rfl rfl ?_
  refine xT.iald hM rfl r1 (by omega) (by omega) ?_
  refine xT.s1 hM rfl rfl ?_
  refine xT.s1 hM rfl rfl ?_
  refine xT.br (fun b6 => ?_) (fun b6 => ?_)
  · refine xT.s1 hM rfl rfl ?_
    exact xT.ret hM rfl rfl rfl rfl (⟨_, rfl, ⟨0, by rfl, Or.inl rfl⟩, rfl⟩)
  · refine xT.s1 hM rfl rfl ?_
    refine xT.s2 hM rfl rfl (x2_get rfl (Or.inl rfl) hq g1) ?_
    refine xT.s1 hM rfl rfl ?_
    refine xT.iald hM rfl r1 (by omega) (by omega) ?_
    refine xT.s1 hM rfl rfl ?_
    refine xT.s1 hM rfl rfl ?_
    refine xT.br (fun b8 => ?_) (fun b8 => ?_)
    · refine xT.s1 hM rfl rfl ?_
      exact xT.ret hM rfl rfl rfl rfl (⟨_, rfl, ⟨0, by rfl, Or.inl rfl⟩, rfl⟩)
    · obtain ⟨m, hs⟩ := v5 (Int32.not_lt.mp b6) (Int32.not_lt.mp b8)
      have hm := hs
      obtain ⟨Fx, rx, gx, kk, -, -, -, hm2, -⟩ := id hs
      refine xT.s1 hM rfl rfl ?_
      refine xT.s2 hM rfl rfl (x2_get rfl (Or.inl rfl) hq g0) ?_
      refine xT.s1 hM rfl rfl ?_
      refine xT.aald hM rfl r0 rfl (by omega) (by omega) ?_
      rw [v1]
      refine xT.s2 hM rfl rfl (x2_get rfl (Or.inr rfl) v2 v4) ?_
      refine xT.go hM rfl rfl rfl rfl rfl rfl (xc_sv rfl rfl rfl kk ⟨rfl, Nat.le_of_ble_eq_true rfl, rfl⟩) rfl ⟨Nat.le_of_ble_eq_true rfl, by show (lg_sl [tx]).length ≤ _; rw [hs.rv.lv1]; decide, by decide⟩ (j_len hs) (fun v h2 hv => ?_)
      obtain ⟨rfl, hh2⟩ := hv
      subst h2
      refine xT.s1 hM rfl rfl ?_
      exact xT.ret hM rfl rfl rfl rfl (⟨_, rfl, ⟨m, rfl, Or.inr ⟨b, Gv, tx, rfl, v2, v4, hs⟩⟩, rfl⟩)
theorem m_place (hG : m_G e h q q8 gb F tp nn cap R A) : xT e d 38 0 [(0, .ref q)] [] h (fun o h' => ∃ v, o = .inl v ∧ (∃ z : Int32, v = some (.int z)) ∧ ∃ F', m_G e h' q q8 gb F' tp nn cap R A ∧ (∀ k, k ≠ q → h'[k]? = h[k]?) ∧ h'.length = h.length ∧ ab_sz h' = ab_sz h) := by
  have hM : (x_mt e.1)[38]? = some xM38 := rfl
  have hq := hG.cell
  have hl := hG.len
  have f2 := hG.f2
  have f14 := hG.f14
  obtain ⟨-, -, ⟨-, ⟨z3, f3⟩, -⟩, ⟨-, ⟨g0, g1, g2, g3, g4, g5⟩, ⟨r0, r1, r2, r3, r4, r5⟩, -, ⟨cn1, cn2, cn3⟩⟩, hnd, hct, n8, c8, -⟩ := id hG
  refine xT.s1 hM rfl rfl ?_
  refine xT.s1 hM rfl rfl ?_
  refine xT.put hM rfl rfl hq (Or.inl rfl) (by rw [hl]; decide) (rfl) (Or.inl rfl) (fun h_1 F_1 eF eh up1 fb fo fl => ?_)
  replace hG := hG.put up1 fl (by decide) fb fo
  have hq := hG.cell
  have hl := hG.len
  have f2 := hG.f2
  have f14 := hG.f14
  obtain ⟨-, -, ⟨-, ⟨z3, f3⟩, -⟩, ⟨-, ⟨g0, g1, g2, g3, g4, g5⟩, ⟨r0, r1, r2, r3, r4, r5⟩, -, ⟨cn1, cn2, cn3⟩⟩, hnd, hct, n8, c8, -⟩ := id hG
  refine xT.s1 hM rfl rfl ?_
  refine xT.s2 hM rfl rfl (x2_get rfl (Or.inl rfl) hq f3) ?_
  exact xT.ret hM rfl rfl rfl rfl (⟨_, rfl, ⟨_, rfl⟩, F_1, hG, up1.2.1, up1.2.2.1, up1.2.2.2⟩)
theorem m_count {c : Int32} (hG : m_G e h q q8 gb F tp nn cap R A) : xT e (d + 1) 46 0 [(0, .ref q), (1, .int c)] [] h (fun o h' => ∃ v, o = .inl v ∧ (∃ z : Int32, v = some (.int z)) ∧ ∃ F', m_G e h' q q8 gb F' tp nn cap R A ∧ (∀ k, k ≠ q → h'[k]? = h[k]?) ∧ h'.length = h.length ∧ ab_sz h' = ab_sz h) := by
  have hM : (x_mt e.1)[46]? = some xM46 := rfl
  have hq := hG.cell
  have hl := hG.len
  have f2 := hG.f2
  have f14 := hG.f14
  obtain ⟨-, -, ⟨-, ⟨z3, f3⟩, -⟩, ⟨-, ⟨g0, g1, g2, g3, g4, g5⟩, ⟨r0, r1, r2, r3, r4, r5⟩, -, ⟨cn1, cn2, cn3⟩⟩, hnd, hct, n8, c8, -⟩ := id hG
  refine xT.s1 hM rfl rfl ?_
  refine xT.s1 hM rfl rfl ?_
  refine xT.put hM rfl rfl hq (Or.inl rfl) (by rw [hl]; decide) (rfl) (Or.inl rfl) (fun h_1 F_1 eF eh up1 fb fo fl => ?_)
  replace hG := hG.put up1 fl (by decide) fb fo
  have hq := hG.cell
  have hl := hG.len
  have f2 := hG.f2
  have f14 := hG.f14
  obtain ⟨-, -, ⟨-, ⟨z3, f3⟩, -⟩, ⟨-, ⟨g0, g1, g2, g3, g4, g5⟩, ⟨r0, r1, r2, r3, r4, r5⟩, -, ⟨cn1, cn2, cn3⟩⟩, hnd, hct, n8, c8, -⟩ := id hG
  refine xT.s1 hM rfl rfl ?_
  refine xT.s1 hM rfl rfl ?_
  refine xT.br (fun b0 => ?_) (fun b0 => ?_)
  · refine xT.s1 hM rfl rfl ?_
    refine xT.s2 hM rfl rfl (x2_get rfl (Or.inl rfl) hq f2) ?_
    refine xT.s1 hM rfl rfl ?_
    exact xT.ret hM rfl rfl rfl rfl (⟨_, rfl, ⟨_, rfl⟩, F_1, hG, up1.2.1, up1.2.2.1, up1.2.2.2⟩)
  · refine xT.s1 hM rfl rfl ?_
    refine xT.s1 hM rfl rfl ?_
    refine xT.s1 hM rfl rfl ?_
    refine xT.br (fun b1 => ?_) (fun b1 => ?_)
    · refine xT.s1 hM rfl rfl ?_
      refine xT.s2 hM rfl rfl (x2_get rfl (Or.inl rfl) hq f14) ?_
      refine xT.s1 hM rfl rfl ?_
      exact xT.ret hM rfl rfl rfl rfl (⟨_, rfl, ⟨_, rfl⟩, F_1, hG, up1.2.1, up1.2.2.1, up1.2.2.2⟩)
    · refine xT.s1 hM rfl rfl ?_
      refine xT.s1 hM rfl rfl ?_
      refine xT.go hM rfl rfl rfl rfl rfl rfl (xc_virt rfl rfl rfl hq ⟨rfl, Nat.le_of_ble_eq_true rfl, rfl, Or.inl rfl⟩) rfl ⟨Nat.le_of_ble_eq_true rfl, Nat.le_of_ble_eq_true rfl, by decide⟩ (m_fail hG) (fun v h2 hv => ?_)
      obtain ⟨rfl, F', hG', y1, y2, y3, y4⟩ := hv
      exact xT.ret hM rfl rfl rfl rfl (⟨_, rfl, ⟨_, rfl⟩, F', hG', fun k hk => (y1 k hk).trans (up1.2.1 k hk), y2.trans up1.2.2.1, y3.trans up1.2.2.2⟩)
theorem m_nodeQ {c w : Int32} (hG : m_G e h q q8 gb F tp nn cap R A) : xT e (d + 3) 41 0 [(0, .ref q), (1, .int c), (2, .int w)] [] h (fun o h' => ∃ v, o = .inl v ∧ (∃ z : Int32, v = some (.int z)) ∧ ∃ F', m_G e h' q q8 gb F' tp nn cap R A ∧ (∀ k, k ≠ q → h'[k]? = h[k]?) ∧ h'.length = h.length ∧ ab_sz h' = ab_sz h) := by
  have hM : (x_mt e.1)[41]? = some xM41 := rfl
  have hq := hG.cell
  have hl := hG.len
  have f2 := hG.f2
  have f14 := hG.f14
  obtain ⟨-, -, ⟨-, ⟨z3, f3⟩, -⟩, ⟨-, ⟨g0, g1, g2, g3, g4, g5⟩, ⟨r0, r1, r2, r3, r4, r5⟩, -, ⟨cn1, cn2, cn3⟩⟩, hnd, hct, n8, c8, -⟩ := id hG
  refine xT.s1 hM rfl rfl ?_
  refine xT.s1 hM rfl rfl ?_
  refine xT.put hM rfl rfl hq (Or.inl rfl) (by rw [hl]; decide) (rfl) (Or.inl rfl) (fun h_1 F_1 eF eh up1 fb fo fl => ?_)
  replace hG := hG.put up1 fl (by decide) fb fo
  have hq := hG.cell
  have hl := hG.len
  have f2 := hG.f2
  have f14 := hG.f14
  obtain ⟨-, -, ⟨-, ⟨z3, f3⟩, -⟩, ⟨-, ⟨g0, g1, g2, g3, g4, g5⟩, ⟨r0, r1, r2, r3, r4, r5⟩, -, ⟨cn1, cn2, cn3⟩⟩, hnd, hct, n8, c8, -⟩ := id hG
  refine xT.s1 hM rfl rfl ?_
  refine xT.s1 hM rfl rfl ?_
  refine xT.go hM rfl rfl rfl rfl rfl rfl (xc_virt rfl rfl rfl hq ⟨rfl, Nat.le_of_ble_eq_true rfl, rfl, Or.inl rfl⟩) rfl ⟨Nat.le_of_ble_eq_true rfl, Nat.le_of_ble_eq_true rfl, by decide⟩ (m_out hG) (fun v h2 hv => ?_)
  obtain ⟨⟨b, rfl, hb⟩, hh2⟩ := hv
  subst h2
  refine xT.s1 hM rfl rfl ?_
  refine xT.br (fun b0 => ?_) (fun b0 => ?_)
  · obtain ⟨j, hj, rfl⟩ := hb b0
    refine xT.s1 hM rfl rfl ?_
    refine xT.s1 hM rfl rfl ?_
    refine xT.br (fun b2 => ?_) (fun b2 => ?_)
    · refine xT.s1 hM rfl rfl ?_
      refine xT.s1 hM rfl rfl ?_
      refine xT.go hM rfl rfl rfl rfl rfl rfl (xc_virt rfl rfl rfl hq ⟨rfl, Nat.le_of_ble_eq_true rfl, rfl, Or.inl rfl⟩) rfl ⟨Nat.le_of_ble_eq_true rfl, Nat.le_of_ble_eq_true rfl, by decide⟩ (m_fail hG) (fun v h2 hv => ?_)
      obtain ⟨rfl, F', hG', y1, y2, y3, y4⟩ := hv
      exact xT.ret hM rfl rfl rfl rfl (⟨_, rfl, ⟨_, rfl⟩, F', hG', fun k hk => (y1 k hk).trans (up1.2.1 k hk), y2.trans up1.2.2.1, y3.trans up1.2.2.2⟩)
    · refine xT.s1 hM rfl rfl ?_
      refine xT.s1 hM rfl rfl ?_
      refine xT.s1 hM rfl rfl ?_
      refine xT.br (fun b3 => ?_) (fun b3 => ?_)
      · refine xT.s1 hM rfl rfl ?_
        refine xT.s1 hM rfl rfl ?_
        refine xT.br (fun c0 => ?_) (fun c0 => ?_)
        · refine xT.s1 hM rfl rfl ?_
          refine xT.s2 hM rfl rfl (x2_get rfl (Or.inl rfl) hq g1) ?_
          refine xT.s1 hM rfl rfl ?_
          refine xT.iald hM rfl r1 (by omega) (by omega) ?_
          refine xT.s1 hM rfl rfl ?_
          exact xT.ret hM rfl rfl rfl rfl (⟨_, rfl, ⟨_, rfl⟩, F_1, hG, up1.2.1, up1.2.2.1, up1.2.2.2⟩)
        · refine xT.s1 hM rfl rfl ?_
          refine xT.s1 hM rfl rfl ?_
          refine xT.s1 hM rfl rfl ?_
          refine xT.br (fun c1 => ?_) (fun c1 => ?_)
          · refine xT.s1 hM rfl rfl ?_
            refine xT.s2 hM rfl rfl (x2_get rfl (Or.inl rfl) hq g2) ?_
            refine xT.s1 hM rfl rfl ?_
            refine xT.iald hM rfl r2 (by omega) (by omega) ?_
            refine xT.s1 hM rfl rfl ?_
            exact xT.ret hM rfl rfl rfl rfl (⟨_, rfl, ⟨_, rfl⟩, F_1, hG, up1.2.1, up1.2.2.1, up1.2.2.2⟩)
          · refine xT.s1 hM rfl rfl ?_
            refine xT.s1 hM rfl rfl ?_
            refine xT.s1 hM rfl rfl ?_
            refine xT.br (fun c2 => ?_) (fun c2 => ?_)
            · refine xT.s1 hM rfl rfl ?_
              refine xT.s2 hM rfl rfl (x2_get rfl (Or.inl rfl) hq g3) ?_
              refine xT.s1 hM rfl rfl ?_
              refine xT.iald hM rfl r3 (by omega) (by omega) ?_
              refine xT.s1 hM rfl rfl ?_
              exact xT.ret hM rfl rfl rfl rfl (⟨_, rfl, ⟨_, rfl⟩, F_1, hG, up1.2.1, up1.2.2.1, up1.2.2.2⟩)
            · refine xT.s1 hM rfl rfl ?_
              refine xT.s1 hM rfl rfl ?_
              refine xT.go hM rfl rfl rfl rfl rfl rfl (xc_virt rfl rfl rfl hq ⟨rfl, Nat.le_of_ble_eq_true rfl, rfl, Or.inl rfl⟩) rfl ⟨Nat.le_of_ble_eq_true rfl, Nat.le_of_ble_eq_true rfl, by decide⟩ (m_units hG hj) (fun v h2 hv => ?_)
              obtain ⟨⟨m, rfl, -⟩, hh2⟩ := hv
              subst h2
              exact xT.ret hM rfl rfl rfl rfl (⟨_, rfl, ⟨_, rfl⟩, F_1, hG, up1.2.1, up1.2.2.1, up1.2.2.2⟩)
      · refine xT.s1 hM rfl rfl ?_
        refine xT.s1 hM rfl rfl ?_
        refine xT.go hM rfl rfl rfl rfl rfl rfl (xc_virt rfl rfl rfl hq ⟨rfl, Nat.le_of_ble_eq_true rfl, rfl, Or.inl rfl⟩) rfl ⟨Nat.le_of_ble_eq_true rfl, Nat.le_of_ble_eq_true rfl, by decide⟩ (m_fail hG) (fun v h2 hv => ?_)
        obtain ⟨rfl, F', hG', y1, y2, y3, y4⟩ := hv
        exact xT.ret hM rfl rfl rfl rfl (⟨_, rfl, ⟨_, rfl⟩, F', hG', fun k hk => (y1 k hk).trans (up1.2.1 k hk), y2.trans up1.2.2.1, y3.trans up1.2.2.2⟩)
  · refine xT.s1 hM rfl rfl ?_
    refine xT.s1 hM rfl rfl ?_
    refine xT.go hM rfl rfl rfl rfl rfl rfl (xc_virt rfl rfl rfl hq ⟨rfl, Nat.le_of_ble_eq_true rfl, rfl, Or.inl rfl⟩) rfl ⟨Nat.le_of_ble_eq_true rfl, Nat.le_of_ble_eq_true rfl, by decide⟩ (m_fail hG) (fun v h2 hv => ?_)
    obtain ⟨rfl, F', hG', y1, y2, y3, y4⟩ := hv
    exact xT.ret hM rfl rfl rfl rfl (⟨_, rfl, ⟨_, rfl⟩, F', hG', fun k hk => (y1 k hk).trans (up1.2.1 k hk), y2.trans up1.2.2.1, y3.trans up1.2.2.2⟩)
theorem m_number {c : Int32} (hG : m_G e h q q8 gb F tp nn cap R A) : xT e (d + 1) 43 0 [(0, .ref q), (1, .int c)] [] h (fun o h' => ∃ v, o = .inl v ∧ (∃ z : Int64, v = some (.long z)) ∧ ∃ F', m_G e h' q q8 gb F' tp nn cap R A ∧ (∀ k, k ≠ q → h'[k]? = h[k]?) ∧ h'.length = h.length ∧ ab_sz h' = ab_sz h) := by
  have hM : (x_mt e.1)[43]? = some xM43 := rfl
  have hq := hG.cell
  have hl := hG.len
  have f2 := hG.f2
  have f14 := hG.f14
  obtain ⟨-, -, ⟨-, ⟨z3, f3⟩, -⟩, ⟨-, ⟨g0, g1, g2, g3, g4, g5⟩, ⟨r0, r1, r2, r3, r4, r5⟩, -, ⟨cn1, cn2, cn3⟩⟩, hnd, hct, n8, c8, -⟩ := id hG
  refine xT.s1 hM rfl rfl ?_
  refine xT.s1 hM rfl rfl ?_
  refine xT.put hM rfl rfl hq (Or.inl rfl) (by rw [hl]; decide) (rfl) (Or.inl rfl) (fun h_1 F_1 eF eh up1 fb fo fl => ?_)
  replace hG := hG.put up1 fl (by decide) fb fo
  have hq := hG.cell
  have hl := hG.len
  have f2 := hG.f2
  have f14 := hG.f14
  obtain ⟨-, -, ⟨-, ⟨z3, f3⟩, -⟩, ⟨-, ⟨g0, g1, g2, g3, g4, g5⟩, ⟨r0, r1, r2, r3, r4, r5⟩, -, ⟨cn1, cn2, cn3⟩⟩, hnd, hct, n8, c8, -⟩ := id hG
  refine xT.s1 hM rfl rfl ?_
  refine xT.s1 hM rfl rfl ?_
  refine xT.go hM rfl rfl rfl rfl rfl rfl (xc_virt rfl rfl rfl hq ⟨rfl, Nat.le_of_ble_eq_true rfl, rfl, Or.inl rfl⟩) rfl ⟨Nat.le_of_ble_eq_true rfl, Nat.le_of_ble_eq_true rfl, by decide⟩ (m_out hG) (fun v h2 hv => ?_)
  obtain ⟨⟨b, rfl, hb⟩, hh2⟩ := hv
  subst h2
  refine xT.s1 hM rfl rfl ?_
  refine xT.br (fun b0 => ?_) (fun b0 => ?_)
  · obtain ⟨j, hj, rfl⟩ := hb b0
    obtain ⟨⟨b, Gv, zv, tx, v1, v2, v3, v4, v5⟩, v6⟩ := hnd j hj
    refine xT.s1 hM rfl rfl ?_
    refine xT.s2 hM rfl rfl (x2_get rfl (Or.inl rfl) hq g1) ?_
    refine xT.s1 hM rfl rfl ?_
    refine xT.iald hM rfl r1 (by omega) (by omega) ?_
    refine xT.s1 hM rfl rfl ?_
    refine xT.s1 hM rfl rfl ?_
    refine xT.br (fun b4 => ?_) (fun b4 => ?_)
    · refine xT.s1 hM rfl rfl ?_
      refine xT.s2 hM rfl rfl (x2_get rfl (Or.inl rfl) hq g0) ?_
      refine xT.s1 hM rfl rfl ?_
      refine xT.aald hM rfl r0 rfl (by omega) (by omega) ?_
      rw [v1]
      refine xT.s2 hM rfl rfl (x2_get rfl (Or.inr rfl) v2 v3) ?_
      refine xT.s1 hM rfl rfl ?_
      exact xT.ret hM rfl rfl rfl rfl (⟨_, rfl, ⟨_, rfl⟩, F_1, hG, up1.2.1, up1.2.2.1, up1.2.2.2⟩)
    · refine xT.s1 hM rfl rfl ?_
      refine xT.s1 hM rfl rfl ?_
      refine xT.go hM rfl rfl rfl rfl rfl rfl (xc_virt rfl rfl rfl hq ⟨rfl, Nat.le_of_ble_eq_true rfl, rfl, Or.inl rfl⟩) rfl ⟨Nat.le_of_ble_eq_true rfl, Nat.le_of_ble_eq_true rfl, by decide⟩ (m_fail hG) (fun v h2 hv => ?_)
      obtain ⟨rfl, F', hG', y1, y2, y3, y4⟩ := hv
      refine xT.s1 hM rfl rfl ?_
      exact xT.ret hM rfl rfl rfl rfl (⟨_, rfl, ⟨_, rfl⟩, F', hG', fun k hk => (y1 k hk).trans (up1.2.1 k hk), y2.trans up1.2.2.1, y3.trans up1.2.2.2⟩)
  · refine xT.s1 hM rfl rfl ?_
    refine xT.s1 hM rfl rfl ?_
    refine xT.go hM rfl rfl rfl rfl rfl rfl (xc_virt rfl rfl rfl hq ⟨rfl, Nat.le_of_ble_eq_true rfl, rfl, Or.inl rfl⟩) rfl ⟨Nat.le_of_ble_eq_true rfl, Nat.le_of_ble_eq_true rfl, by decide⟩ (m_fail hG) (fun v h2 hv => ?_)
    obtain ⟨rfl, F', hG', y1, y2, y3, y4⟩ := hv
    refine xT.s1 hM rfl rfl ?_
    exact xT.ret hM rfl rfl rfl rfl (⟨_, rfl, ⟨_, rfl⟩, F', hG', fun k hk => (y1 k hk).trans (up1.2.1 k hk), y2.trans up1.2.2.1, y3.trans up1.2.2.2⟩)
theorem m_unit {c w : Int32} (hE : e.1 = .null ∨ ∃ w, e.1 = .float w) (hG : m_G e h q q8 gb F tp nn cap R A) : xT e (d + 4) 44 0 [(0, .ref q), (1, .int c), (2, .int w)] [] h (fun o h' => ∃ v, o = .inl v ∧ (∃ z : Int32, v = some (.int z)) ∧ ∃ F', m_G e h' q q8 gb F' tp nn cap R A ∧ (∀ k, k ≠ q → h'[k]? = h[k]?) ∧ h'.length = h.length ∧ ab_sz h' = ab_sz h) := by
  have hM : (x_mt e.1)[44]? = some xM44 := rfl
  have hq := hG.cell
  have hl := hG.len
  have f2 := hG.f2
  have f14 := hG.f14
  obtain ⟨-, -, ⟨-, ⟨z3, f3⟩, -⟩, ⟨-, ⟨g0, g1, g2, g3, g4, g5⟩, ⟨r0, r1, r2, r3, r4, r5⟩, -, ⟨cn1, cn2, cn3⟩⟩, hnd, hct, n8, c8, -⟩ := id hG
  refine xT.s1 hM rfl rfl ?_
  refine xT.s1 hM rfl rfl ?_
  refine xT.put hM rfl rfl hq (Or.inl rfl) (by rw [hl]; decide) (rfl) (Or.inl rfl) (fun h_1 F_1 eF eh up1 fb fo fl => ?_)
  replace hG := hG.put up1 fl (by decide) fb fo
  have hq := hG.cell
  have hl := hG.len
  have f2 := hG.f2
  have f14 := hG.f14
  obtain ⟨-, -, ⟨-, ⟨z3, f3⟩, -⟩, ⟨-, ⟨g0, g1, g2, g3, g4, g5⟩, ⟨r0, r1, r2, r3, r4, r5⟩, -, ⟨cn1, cn2, cn3⟩⟩, hnd, hct, n8, c8, -⟩ := id hG
  refine xT.s1 hM rfl rfl ?_
  refine xT.s1 hM rfl rfl ?_
  refine xT.go hM rfl rfl rfl rfl rfl rfl (xc_virt rfl rfl rfl hq ⟨rfl, Nat.le_of_ble_eq_true rfl, rfl, Or.inl rfl⟩) rfl ⟨Nat.le_of_ble_eq_true rfl, Nat.le_of_ble_eq_true rfl, by decide⟩ (m_out hG) (fun v h2 hv => ?_)
  obtain ⟨⟨b, rfl, hb⟩, hh2⟩ := hv
  subst h2
  refine xT.s1 hM rfl rfl ?_
  refine xT.br (fun b0 => ?_) (fun b0 => ?_)
  · obtain ⟨j, hj, rfl⟩ := hb b0
    refine xT.s1 hM rfl rfl ?_
    refine xT.s1 hM rfl rfl ?_
    refine xT.br (fun b1 => ?_) (fun b1 => ?_)
    · refine xT.s1 hM rfl rfl ?_
      refine xT.s1 hM rfl rfl ?_
      refine xT.go hM rfl rfl rfl rfl rfl rfl (xc_virt rfl rfl rfl hq ⟨rfl, Nat.le_of_ble_eq_true rfl, rfl, Or.inl rfl⟩) rfl ⟨Nat.le_of_ble_eq_true rfl, Nat.le_of_ble_eq_true rfl, by decide⟩ (m_fail hG) (fun v h2 hv => ?_)
      obtain ⟨rfl, F', hG', y1, y2, y3, y4⟩ := hv
      refine xT.s1 hM rfl rfl ?_
      exact xT.ret hM rfl rfl rfl rfl (⟨_, rfl, ⟨_, rfl⟩, F', hG', fun k hk => (y1 k hk).trans (up1.2.1 k hk), y2.trans up1.2.2.1, y3.trans up1.2.2.2⟩)
    · refine xT.s1 hM rfl rfl ?_
      refine xT.s1 hM rfl rfl ?_
      refine xT.s1 hM rfl rfl ?_
      refine xT.go hM rfl rfl rfl rfl rfl rfl (xc_virt rfl rfl rfl hq ⟨rfl, Nat.le_of_ble_eq_true rfl, rfl, Or.inl rfl⟩) rfl ⟨Nat.le_of_ble_eq_true rfl, Nat.le_of_ble_eq_true rfl, by decide⟩ (m_units hG hj) (fun v h2 hv => ?_)
      obtain ⟨⟨m, rfl, hm⟩, hh2⟩ := hv
      subst h2
      refine xT.s1 hM rfl rfl ?_
      refine xT.br (fun b2 => ?_) (fun b2 => ?_)
      · obtain ⟨i, hi, rfl⟩ := nI_of b1
        rcases hm with rfl | ⟨bv, Gv, tx, v1, v2, v4, hs⟩
        · exact absurd b2 (nI_nlt (Nat.zero_le _) hi)
        obtain ⟨Fx, rx, gx, kk, -, -, -, hm2, -⟩ := id hs
        have him : i < m := (nI_ltI hi (by omega)).mp b2
        refine xT.s1 hM rfl rfl ?_
        refine xT.s2 hM rfl rfl (x2_get rfl (Or.inl rfl) hq g0) ?_
        refine xT.s1 hM rfl rfl ?_
        refine xT.aald hM rfl r0 rfl (by omega) (by omega) ?_
        rw [v1]
        refine xT.s2 hM rfl rfl (x2_get rfl (Or.inr rfl) v2 v4) ?_
        refine xT.s1 hM rfl rfl ?_
        refine xT.go hM rfl rfl rfl rfl rfl rfl (xc_sv rfl rfl rfl kk ⟨rfl, Nat.le_of_ble_eq_true rfl, rfl⟩) rfl ⟨Nat.le_of_ble_eq_true rfl, by show (lg_sl [tx, Value.int (nI i)]).length ≤ _; rw [hs.rv.sl2 rfl]; decide, by decide⟩ (xT.cast (hs.rv.lv2 _) (j_charAt hE hs him)) (fun v h2 hv => ?_)
        obtain ⟨zc, rfl, hh2⟩ := hv
        subst h2
        exact xT.ret hM rfl rfl rfl rfl (⟨_, rfl, ⟨_, rfl⟩, F_1, hG, up1.2.1, up1.2.2.1, up1.2.2.2⟩)
      · refine xT.s1 hM rfl rfl ?_
        refine xT.s1 hM rfl rfl ?_
        refine xT.go hM rfl rfl rfl rfl rfl rfl (xc_virt rfl rfl rfl hq ⟨rfl, Nat.le_of_ble_eq_true rfl, rfl, Or.inl rfl⟩) rfl ⟨Nat.le_of_ble_eq_true rfl, Nat.le_of_ble_eq_true rfl, by decide⟩ (m_fail hG) (fun v h2 hv => ?_)
        obtain ⟨rfl, F', hG', y1, y2, y3, y4⟩ := hv
        refine xT.s1 hM rfl rfl ?_
        exact xT.ret hM rfl rfl rfl rfl (⟨_, rfl, ⟨_, rfl⟩, F', hG', fun k hk => (y1 k hk).trans (up1.2.1 k hk), y2.trans up1.2.2.1, y3.trans up1.2.2.2⟩)
  · refine xT.s1 hM rfl rfl ?_
    refine xT.s1 hM rfl rfl ?_
    refine xT.go hM rfl rfl rfl rfl rfl rfl (xc_virt rfl rfl rfl hq ⟨rfl, Nat.le_of_ble_eq_true rfl, rfl, Or.inl rfl⟩) rfl ⟨Nat.le_of_ble_eq_true rfl, Nat.le_of_ble_eq_true rfl, by decide⟩ (m_fail hG) (fun v h2 hv => ?_)
    obtain ⟨rfl, F', hG', y1, y2, y3, y4⟩ := hv
    exact xT.ret hM rfl rfl rfl rfl (⟨_, rfl, ⟨_, rfl⟩, F', hG', fun k hk => (y1 k hk).trans (up1.2.1 k hk), y2.trans up1.2.2.1, y3.trans up1.2.2.2⟩)
end XMC
