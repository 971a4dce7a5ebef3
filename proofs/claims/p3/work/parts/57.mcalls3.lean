/-! the reference: end and feed -/
theorem j_str.byB {e : xE} {h h' : ab_H} {v : Value} {n : Nat} (k1 : ∀ (k : Nat) (F : List Value), h[k]? = some (.inr (9, F)) → h'[k]? = some (.inr (9, F))) (k2 : ∀ (k n : Nat) (f : Nat → Value), h[k]? = some (.inl (0, n, f)) → e.2.2.2.2.2 ≤ k → h'[k]? = some (.inl (0, n, f))) (k : j_str e h v n) : j_str e h' v n := by
  obtain ⟨F, r, f, h1, h2, h3, h4, h5, h6⟩ := k
  refine ⟨F, r, f, ?_, h2, h3, ?_, h5, h6⟩
  · rcases h1 with ⟨a, z, y⟩ | z
    · exact Or.inl ⟨a, z, k1 _ _ y⟩
    · exact Or.inr z
  · rcases h4 with ⟨a, z, y⟩ | z
    · exact Or.inl ⟨a, z, k2 _ _ _ y (h6 a z)⟩
    · exact Or.inr z
section XME
variable {e : xE} {d q q8 tp nn cap : Nat} {gb : Nat → Int32} {h h' : ab_H} {F F' : List Value} {R : Nat → Nat} {A : m_AT}
/-- the tape's length changes -/
theorem m_G.put2 {tp2 : Nat} (hG : m_G e h q q8 gb F tp nn cap R A) (u : x_up h q h' (.inr (3, F'))) (hl : F'.length = F.length) (ht2 : tp2 ≤ 4096) (fb : F'[2]? = some (.int (nI tp2))) (fo : ∀ i, i ≠ 2 → F'[i]? = F[i]?) : m_G e h' q q8 gb F' tp2 nn cap R A := by
  obtain ⟨⟨fr, a, t, w, hX, hw⟩, hC, ⟨z0, z3, z12⟩, hE, hnd, hct, n8, c8, bq, b8, bz⟩ := hG
  have hq := hX.1.1
  have frq : ∀ (k : Nat) (x : ab_E), h[k]? = some x → k ≠ q → h'[k]? = some x := fun k x hk hn => (u.2.1 k hn).trans hk
  obtain ⟨⟨-, hl0, f1, f2, f6, f7, ⟨y8, f8⟩, ⟨y9, f9⟩, f10, f11, h8, htp⟩, -⟩ := hX
  obtain ⟨qs, qk, sf, kf, c1, c2, c3, c4, c5, c6⟩ := hC
  obtain ⟨⟨e1, e2, e3⟩, ⟨g0, g1, g2, g3, g4, g5⟩, ⟨r0, r1, r2, r3, r4, r5⟩, ns, cs⟩ := hE
  refine ⟨⟨fr, a, t, w, ⟨⟨u.1, hl.trans hl0, (fo 1 (by omega)).trans f1, fb, (fo 6 (by omega)).trans f6, (fo 7 (by omega)).trans f7, ⟨_, (fo 8 (by omega)).trans f8⟩, ⟨_, (fo 9 (by omega)).trans f9⟩, (fo 10 (by omega)).trans f10, (fo 11 (by omega)).trans f11, frq _ _ h8 (x_neq h8 hq (by simp)), ht2⟩, fun _ _ => rfl, fun _ _ hk _ => hk⟩, ?_⟩, ⟨qs, qk, sf, kf, (fo 4 (by omega)).trans c1, (fo 5 (by omega)).trans c2, frq _ _ c3 (x_neq c3 hq (by simp)), frq _ _ c4 (x_neq c4 hq (by simp)), c5, c6⟩, ⟨?_, ?_, ?_⟩, ⟨⟨u.1, hl.trans e2, (fo 14 (by omega)).trans e3⟩, ⟨(fo 15 (by omega)).trans g0, (fo 16 (by omega)).trans g1, (fo 17 (by omega)).trans g2, (fo 18 (by omega)).trans g3, (fo 19 (by omega)).trans g4, (fo 20 (by omega)).trans g5⟩, ⟨frq _ _ r0 (x_neq r0 hq (by simp)), frq _ _ r1 (x_neq r1 hq (by simp)), frq _ _ r2 (x_neq r2 hq (by simp)), frq _ _ r3 (x_neq r3 hq (by simp)), frq _ _ r4 (x_neq r4 hq (by simp)), frq _ _ r5 (x_neq r5 hq (by simp))⟩, ns, cs⟩, fun i hi => ?_, hct, n8, c8, bq, by rw [u.2.2.1]; exact b8, fun x hx => bz x (hx.imp (fun y => (fo 4 (by omega)).symm.trans y) (fun y => (fo 5 (by omega)).symm.trans y))⟩
  · rcases hw with z | ⟨n, z⟩
    · exact Or.inl z
    · exact Or.inr ⟨n, z.kept frq hq (by decide)⟩
  · obtain ⟨z, hz⟩ := z0
    exact ⟨z, (fo 0 (by omega)).trans hz⟩
  · obtain ⟨z, hz⟩ := z3
    exact ⟨z, (fo 3 (by omega)).trans hz⟩
  · obtain ⟨z, hz⟩ := z12
    exact ⟨z, (fo 12 (by omega)).trans hz⟩
  · obtain ⟨⟨b, G, zz, tx, w1, w2, w3, w4, w5⟩, w6⟩ := hnd i hi
    refine ⟨⟨b, G, zz, tx, w1, frq _ _ w2 (x_neq w2 hq (by simp)), w3, w4, fun a1 a2 => ?_⟩, ?_⟩
    · obtain ⟨m, y⟩ := w5 a1 a2
      exact ⟨m, y.kept frq hq (by decide)⟩
    · rcases w6 with y | ⟨m, y⟩
      · exact Or.inl y
      · exact Or.inr ⟨m, y.kept frq hq (by decide)⟩
/-- all cells stay but such as are no part of the reference's state -/
theorem m_G.kept {gb' : Nat → Int32} (hG : m_G e h q q8 gb F tp nn cap R A) (hq8 : h'[q8]? = some (.inl (0, 4096, fun j => .int (gb' j)))) (hl : h.length ≤ h'.length) (ko : ∀ (k ci : Nat) (G : List Value), h[k]? = some (.inr (ci, G)) → (ci = 3 ∨ ci = 9 ∨ ci = 11) → h'[k]? = some (.inr (ci, G))) (kr : ∀ (k t n : Nat) (f : Nat → Value), h[k]? = some (.inl (t, n, f)) → (t = 1 ∨ t = 3 ∨ t = 4) → h'[k]? = some (.inl (t, n, f))) (kb : ∀ (k n : Nat) (f : Nat → Value), h[k]? = some (.inl (0, n, f)) → e.2.2.2.2.2 ≤ k → h'[k]? = some (.inl (0, n, f))) : m_G e h' q q8 gb' F tp nn cap R A := by
  obtain ⟨⟨fr, a, t, w, hX, hw⟩, ⟨qs, qk, sf, kf, c1, c2, c3, c4, c5, c6⟩, zs, ⟨⟨e1, e2, e3⟩, gs, ⟨r0, r1, r2, r3, r4, r5⟩, ns, cs⟩, hnd, hct, n8, c8, bq, b8, bz⟩ := hG
  obtain ⟨⟨hq, hl0, f1, f2, f6, f7, f8, f9, f10, f11, h8, htp⟩, -⟩ := hX
  have st : ∀ v m, j_str e h v m → j_str e h' v m := fun v m z => z.byB (fun k F hk => ko k 9 F hk (by omega)) kb
  refine ⟨⟨fr, a, t, w, ⟨⟨ko _ _ _ hq (by omega), hl0, f1, f2, f6, f7, f8, f9, f10, f11, hq8, htp⟩, fun _ _ => rfl, fun _ _ hk _ => hk⟩, ?_⟩, ⟨qs, qk, sf, kf, c1, c2, kr _ _ _ _ c3 (by omega), kr _ _ _ _ c4 (by omega), c5, c6⟩, zs, ⟨⟨ko _ _ _ e1 (by omega), e2, e3⟩, gs, ⟨kr _ _ _ _ r0 (by omega), kr _ _ _ _ r1 (by omega), kr _ _ _ _ r2 (by omega), kr _ _ _ _ r3 (by omega), kr _ _ _ _ r4 (by omega), kr _ _ _ _ r5 (by omega)⟩, ns, cs⟩, fun i hi => ?_, hct, n8, c8, bq, by omega, bz⟩
  · rcases hw with z | ⟨n, z⟩
    · exact Or.inl z
    · exact Or.inr ⟨n, st _ _ z⟩
  · obtain ⟨⟨b, G, zz, tx, w1, w2, w3, w4, w5⟩, w6⟩ := hnd i hi
    refine ⟨⟨b, G, zz, tx, w1, ko _ _ _ w2 (by omega), w3, w4, fun a1 a2 => ?_⟩, ?_⟩
    · obtain ⟨m, y⟩ := w5 a1 a2
      exact ⟨m, st _ _ y⟩
    · rcases w6 with y | ⟨m, y⟩
      · exact Or.inl y
      · exact Or.inr ⟨m, st _ _ y⟩
theorem m_G.h8 (hG : m_G e h q q8 gb F tp nn cap R A) : h[q8]? = some (.inl (0, 4096, fun j => .int (gb j))) ∧ F[1]? = some (.ref q8) := by
  obtain ⟨⟨fr, a, t, w, hX, -⟩, -⟩ := hG
  exact ⟨hX.1.2.2.2.2.2.2.2.2.2.2.1, hX.1.2.2.1⟩
theorem m_end2 {c : Int32} (hG : m_G e h q q8 gb F tp nn cap R A) : xT e (d + 1) 36 0 [(0, .ref q), (1, .int c)] [] h (fun o h' => ∃ v, o = .inl v ∧ ∃ F' tp2, m_G e h' q q8 gb F' tp2 nn cap R A ∧ (∀ k, k ≠ q → h'[k]? = h[k]?) ∧ h'.length = h.length ∧ ab_sz h' = ab_sz h ∧ ((c < 0 ∨ nI tp < c) ∧ tp2 = tp ∧ F'[0]? = some (.int 1) ∧ v = some (.int 0) ∨ (¬ c < 0 ∧ ¬ nI tp < c ∧ c = nI tp2 ∧ F'[0]? = some (.int 0) ∧ v = some (.int c)))) := by
  have hM : (x_mt e.1)[36]? = some xM36 := rfl
  have hq := hG.cell
  have hl := hG.len
  have f2 := hG.f2
  have f14 := hG.f14
  obtain ⟨-, -, ⟨-, ⟨z3, f3⟩, -⟩, ⟨-, ⟨g0, g1, g2, g3, g4, g5⟩, ⟨r0, r1, r2, r3, r4, r5⟩, -, ⟨cn1, cn2, cn3⟩⟩, hnd, hct, n8, c8, -⟩ := id hG
  have htp := hG.tpl
  refine xT.s1 hM rfl rfl ?_
  refine xT.s1 hM rfl rfl ?_
  refine xT.put hM rfl rfl hq (Or.inl rfl) (by rw [hl]; decide) (rfl) (Or.inl rfl) (fun h_1 F_1 eF eh up1 fb fo fl => ?_)
  replace hG := hG.put up1 fl (by decide) fb fo
  have hq := hG.cell
  have hl := hG.len
  have f2 := hG.f2
  have f14 := hG.f14
  obtain ⟨-, -, ⟨-, ⟨z3, f3⟩, -⟩, ⟨-, ⟨g0, g1, g2, g3, g4, g5⟩, ⟨r0, r1, r2, r3, r4, r5⟩, -, ⟨cn1, cn2, cn3⟩⟩, hnd, hct, n8, c8, -⟩ := id hG
  have f0 := fb
  refine xT.s1 hM rfl rfl ?_
  refine xT.s1 hM rfl rfl ?_
  refine xT.br (fun b0 => ?_) (fun b0 => ?_)
  · refine xT.s1 hM rfl rfl ?_
    refine xT.s1 hM rfl rfl ?_
    refine xT.go hM rfl rfl rfl rfl rfl rfl (xc_virt rfl rfl rfl hq ⟨rfl, Nat.le_of_ble_eq_true rfl, rfl, Or.inl rfl⟩) rfl ⟨Nat.le_of_ble_eq_true rfl, Nat.le_of_ble_eq_true rfl, by decide⟩ (m_fail hG) (fun v h2 hv => ?_)
    obtain ⟨rfl, F', hG', y1, y2, y3, y4⟩ := hv
    exact xT.ret hM rfl rfl rfl rfl (⟨_, rfl, F', tp, hG', fun k hk => (y1 k hk).trans (up1.2.1 k hk), y2.trans up1.2.2.1, y3.trans up1.2.2.2, Or.inl ⟨Or.inl b0, rfl, y4, rfl⟩⟩)
  · refine xT.s1 hM rfl rfl ?_
    refine xT.s1 hM rfl rfl ?_
    refine xT.s2 hM rfl rfl (x2_get rfl (Or.inl rfl) hq f2) ?_
    refine xT.s1 hM rfl rfl ?_
    refine xT.br (fun b1 => ?_) (fun b1 => ?_)
    · obtain ⟨j, hj, rfl⟩ := nI_of b0
      have hjt : j ≤ tp := (nI_leI hj (by omega)).mp b1
      refine xT.s1 hM rfl rfl ?_
      refine xT.s1 hM rfl rfl ?_
      refine xT.put hM rfl rfl hq (Or.inl rfl) (by rw [hl]; decide) (rfl) (Or.inl rfl) (fun h_2 F_2 eF eh up2 fb fo fl => ?_)
      replace hG := hG.put2 (tp2 := j) up2 fl (by omega) fb fo
      have hq := hG.cell
      have hl := hG.len
      have f2 := hG.f2
      have f14 := hG.f14
      obtain ⟨-, -, ⟨-, ⟨z3, f3⟩, -⟩, ⟨-, ⟨g0, g1, g2, g3, g4, g5⟩, ⟨r0, r1, r2, r3, r4, r5⟩, -, ⟨cn1, cn2, cn3⟩⟩, hnd, hct, n8, c8, -⟩ := id hG
      refine xT.s1 hM rfl rfl ?_
      exact xT.ret hM rfl rfl rfl rfl (⟨_, rfl, F_2, j, hG, fun k hk => (up2.2.1 k hk).trans (up1.2.1 k hk), up2.2.2.1.trans up1.2.2.1, up2.2.2.2.trans up1.2.2.2, Or.inr ⟨b0, Int32.not_lt.mpr b1, rfl, (fo 0 (by decide)).trans f0, rfl⟩⟩)
    · refine xT.s1 hM rfl rfl ?_
      refine xT.s1 hM rfl rfl ?_
      refine xT.go hM rfl rfl rfl rfl rfl rfl (xc_virt rfl rfl rfl hq ⟨rfl, Nat.le_of_ble_eq_true rfl, rfl, Or.inl rfl⟩) rfl ⟨Nat.le_of_ble_eq_true rfl, Nat.le_of_ble_eq_true rfl, by decide⟩ (m_fail hG) (fun v h2 hv => ?_)
      obtain ⟨rfl, F', hG', y1, y2, y3, y4⟩ := hv
      exact xT.ret hM rfl rfl rfl rfl (⟨_, rfl, F', tp, hG', fun k hk => (y1 k hk).trans (up1.2.1 k hk), y2.trans up1.2.2.1, y3.trans up1.2.2.2, Or.inl ⟨Or.inr (Int32.not_le.mp b1), rfl, y4, rfl⟩⟩)
theorem m_feedLoop {va vb vc vd ve : Int32} {h0 : ab_H} (htp : tp + 20 ≤ 4096) : ∀ (M i : Nat) (gb : Nat → Int32) (F : List Value) (h : ab_H), 20 - i < M → i ≤ 20 → m_G e h q q8 gb F (tp + i) nn cap R A → F[0]? = some (.int 0) → (∀ k, k ≠ q → k ≠ q8 → h[k]? = h0[k]?) → h.length = h0.length → ab_sz h = ab_sz h0 → xT e d 35 27 [(6, .int (nI i)), (0, .ref q), (1, .int va), (2, .int vb), (3, .int vc), (4, .int vd), (5, .int ve)] [] h (fun o h' => ∃ v, o = .inl v ∧ v = some (.int (nI (tp + 20))) ∧ ∃ F' gb', m_G e h' q q8 gb' F' (tp + 20) nn cap R A ∧ F'[0]? = some (.int 0) ∧ (∀ k, k ≠ q → k ≠ q8 → h'[k]? = h0[k]?) ∧ h'.length = h0.length ∧ ab_sz h' = ab_sz h0) := by
  have hM : (x_mt e.1)[35]? = some xM35 := rfl
  intro M
  induction M with
  | zero => intro i gb F h m1; omega
  | succ M ih =>
    intro i gb F h m1 m2 hG f0 fr hL hZ
    have hq := hG.cell
    have hl := hG.len
    have f2 := hG.f2
    have f14 := hG.f14
    obtain ⟨-, -, ⟨-, ⟨z3, f3⟩, -⟩, ⟨-, ⟨g0, g1, g2, g3, g4, g5⟩, ⟨r0, r1, r2, r3, r4, r5⟩, -, ⟨cn1, cn2, cn3⟩⟩, hnd, hct, n8, c8, -⟩ := id hG
    obtain ⟨h8, f1⟩ := hG.h8
    have bq := hG.2.2.2.2.2.2.2.2.1
    refine xT.s1 hM rfl rfl ?_
    refine xT.s1 hM rfl rfl ?_
    refine xT.s1 hM rfl rfl ?_
    refine xT.br (fun b0 => ?_) (fun b0 => ?_)
    · have ei : i = 20 := Nat.le_antisymm m2 ((nI_leI (a := 20) (by omega) (by omega)).mp b0)
      subst ei
      refine xT.s1 hM rfl rfl ?_
      refine xT.s2 hM rfl rfl (x2_get rfl (Or.inl rfl) hq f2) ?_
      exact xT.ret hM rfl rfl rfl rfl (⟨_, rfl, rfl, F, gb, hG, f0, fr, hL, hZ⟩)
    · have hi : i < 20 := Nat.lt_of_not_le (fun z => b0 (nI_le (a := 20) z (by omega)))
      have j80 : ∀ w : Int32, xT e d 35 80 [(6, .int (nI i)), (0, .ref q), (1, .int va), (2, .int vb), (3, .int vc), (4, .int vd), (5, .int ve)] [.int w] h (fun o h' => ∃ v, o = .inl v ∧ v = some (.int (nI (tp + 20))) ∧ ∃ F' gb', m_G e h' q q8 gb' F' (tp + 20) nn cap R A ∧ F'[0]? = some (.int 0) ∧ (∀ k, k ≠ q → k ≠ q8 → h'[k]? = h0[k]?) ∧ h'.length = h0.length ∧ ab_sz h' = ab_sz h0) := by
        intro w
        refine xT.s1 hM rfl rfl ?_
        refine xT.s1 hM rfl rfl ?_
        refine xT.s2 hM rfl rfl (x2_get rfl (Or.inl rfl) hq f1) ?_
        refine xT.s1 hM rfl rfl ?_
        refine xT.s2 hM rfl rfl (x2_get rfl (Or.inl rfl) hq f2) ?_
        refine xT.s1 hM rfl rfl ?_
        refine xT.s1 hM rfl rfl ?_
        refine xT.s1 hM rfl rfl ?_
        refine xT.s1 hM rfl rfl ?_
        refine xT.s1 hM rfl rfl ?_
        refine xT.s1 hM rfl rfl ?_
        refine xT.s1 hM rfl rfl ?_
        refine xT.s1 hM rfl rfl ?_
        refine xT.s1 hM rfl rfl ?_
        refine xT.s1 hM rfl rfl ?_
        refine xT.bast hM rfl h8 (by omega) (by omega) (fun h1 e1 u1 => ?_)
        rw [x_updI] at u1
        have hG1 := hG.kept u1.1 (by rw [u1.2.2.1]; exact Nat.le_refl _) (fun k ci G hk _ => (u1.2.1 k (x_neq hk h8 (by simp))).trans hk) (fun k t n f hk ht => (u1.2.1 k (x_neq hk h8 (by simp; omega))).trans hk) (fun k n f hk hb => (u1.2.1 k (by omega)).trans hk)
        replace hG := hG1
        have hq := hG.cell
        have hl := hG.len
        have f2 := hG.f2
        have f14 := hG.f14
        obtain ⟨-, -, ⟨-, ⟨z3, f3⟩, -⟩, ⟨-, ⟨g0, g1, g2, g3, g4, g5⟩, ⟨r0, r1, r2, r3, r4, r5⟩, -, ⟨cn1, cn2, cn3⟩⟩, hnd, hct, n8, c8, -⟩ := id hG
        refine xT.s1 hM rfl rfl ?_
        refine xT.s1 hM rfl rfl ?_
        refine xT.s2 hM rfl rfl (x2_get rfl (Or.inl rfl) hq f2) ?_
        refine xT.s1 hM rfl rfl ?_
        refine xT.s1 hM rfl rfl ?_
        rw [show nI (tp + i) + Int32.ofInt 1 = nI (tp + (i + 1)) from nI_add (tp + i) 1]
        refine xT.put hM rfl rfl hq (Or.inl rfl) (by rw [hl]; decide) (rfl) (Or.inl rfl) (fun h_1 F_1 eF eh up1 fb fo fl => ?_)
        replace hG := hG.put2 (tp2 := tp + (i + 1)) up1 fl (by omega) fb fo
        have hq := hG.cell
        have hl := hG.len
        have f2 := hG.f2
        have f14 := hG.f14
        obtain ⟨-, -, ⟨-, ⟨z3, f3⟩, -⟩, ⟨-, ⟨g0, g1, g2, g3, g4, g5⟩, ⟨r0, r1, r2, r3, r4, r5⟩, -, ⟨cn1, cn2, cn3⟩⟩, hnd, hct, n8, c8, -⟩ := id hG
        refine xT.s1 hM rfl rfl ?_
        rw [show nI i + Int32.ofInt 1 = nI (i + 1) from nI_add i 1]
        refine xT.s1 hM rfl rfl ?_
        exact xT.weak (L := [(6, .int (nI (i + 1))), (0, .ref q), (1, .int va), (2, .int vb), (3, .int vc), (4, .int vd), (5, .int ve)]) ⟨by simp [ab_put1, x_ci, x_cr, x_cf, x_cn, x_cl2], by simp [ab_put1, x_ci, x_cr, x_cf, x_cn, x_cl2]⟩ (ih (i + 1) _ _ _ (by omega) (by omega) hG ((fo 0 (by decide)).trans f0) (fun k n1 n2 => (up1.2.1 k n1).trans ((u1.2.1 k n2).trans (fr k n1 n2))) (by rw [up1.2.2.1, u1.2.2.1]; exact hL) (by rw [up1.2.2.2, u1.2.2.2]; exact hZ))
      refine xT.s1 hM rfl rfl ?_
      refine xT.s1 hM rfl rfl ?_
      refine xT.s1 hM rfl rfl ?_
      refine xT.br (fun c1 => ?_) (fun c1 => ?_)
      · refine xT.s1 hM rfl rfl ?_
        refine xT.s1 hM rfl rfl ?_
        refine xT.s1 hM rfl rfl ?_
        refine xT.br (fun c2 => ?_) (fun c2 => ?_)
        · refine xT.s1 hM rfl rfl ?_
          refine xT.s1 hM rfl rfl ?_
          refine xT.s1 hM rfl rfl ?_
          refine xT.br (fun c3 => ?_) (fun c3 => ?_)
          · refine xT.s1 hM rfl rfl ?_
            refine xT.s1 hM rfl rfl ?_
            refine xT.s1 hM rfl rfl ?_
            refine xT.br (fun c4 => ?_) (fun c4 => ?_)
            · refine xT.s1 hM rfl rfl ?_
              exact j80 _
            · refine xT.s1 hM rfl rfl ?_
              refine xT.s1 hM rfl rfl ?_
              exact j80 _
          · refine xT.s1 hM rfl rfl ?_
            refine xT.s1 hM rfl rfl ?_
            exact j80 _
        · refine xT.s1 hM rfl rfl ?_
          refine xT.s1 hM rfl rfl ?_
          exact j80 _
      · refine xT.s1 hM rfl rfl ?_
        refine xT.s1 hM rfl rfl ?_
        exact j80 _
theorem m_feed {va vb vc vd ve : Int32} (hG : m_G e h q q8 gb F tp nn cap R A) : xT e (d + 1) 35 0 [(0, .ref q), (1, .int va), (2, .int vb), (3, .int vc), (4, .int vd), (5, .int ve)] [] h (fun o h' => ∃ v, o = .inl v ∧ ∃ F' gb' tp2, m_G e h' q q8 gb' F' tp2 nn cap R A ∧ (∀ k, k ≠ q → k ≠ q8 → h'[k]? = h[k]?) ∧ h'.length = h.length ∧ ab_sz h' = ab_sz h ∧ (¬ tp + 20 ≤ 4096 ∧ tp2 = tp ∧ F'[0]? = some (.int 1) ∧ v = some (.int 0) ∨ tp + 20 ≤ 4096 ∧ tp2 = tp + 20 ∧ F'[0]? = some (.int 0) ∧ v = some (.int (nI (tp + 20))))) := by
  have hM : (x_mt e.1)[35]? = some xM35 := rfl
  have hq := hG.cell
  have hl := hG.len
  have f2 := hG.f2
  have f14 := hG.f14
  obtain ⟨-, -, ⟨-, ⟨z3, f3⟩, -⟩, ⟨-, ⟨g0, g1, g2, g3, g4, g5⟩, ⟨r0, r1, r2, r3, r4, r5⟩, -, ⟨cn1, cn2, cn3⟩⟩, hnd, hct, n8, c8, -⟩ := id hG
  have htp := hG.tpl
  refine xT.s1 hM rfl rfl ?_
  refine xT.s1 hM rfl rfl ?_
  refine xT.put hM rfl rfl hq (Or.inl rfl) (by rw [hl]; decide) (rfl) (Or.inl rfl) (fun h_1 F_1 eF eh up1 fb fo fl => ?_)
  replace hG := hG.put up1 fl (by decide) fb fo
  have hq := hG.cell
  have hl := hG.len
  have f2 := hG.f2
  have f14 := hG.f14
  obtain ⟨-, -, ⟨-, ⟨z3, f3⟩, -⟩, ⟨-, ⟨g0, g1, g2, g3, g4, g5⟩, ⟨r0, r1, r2, r3, r4, r5⟩, -, ⟨cn1, cn2, cn3⟩⟩, hnd, hct, n8, c8, -⟩ := id hG
  have f0 := fb
  refine xT.s1 hM rfl rfl ?_
  refine xT.s2 hM rfl rfl (x2_get rfl (Or.inl rfl) hq f2) ?_
  refine xT.s1 hM rfl rfl ?_
  refine xT.s1 hM rfl rfl ?_
  refine xT.s1 hM rfl rfl ?_
  rw [show nI tp + (Int8.ofInt 20).toInt32 = nI (tp + 20) from nI_add tp 20]
  refine xT.s1 hM rfl rfl ?_
  refine xT.br (fun b0 => ?_) (fun b0 => ?_)
  · have h4 : tp + 20 ≤ 4096 := (nI_leI (b := 4096) (by omega) (by omega)).mp b0
    refine xT.s1 hM rfl rfl ?_
    refine xT.s1 hM rfl rfl ?_
    have up1_q : ∀ j, j ≠ q → j ≠ q8 → h_1[j]? = h[j]? := fun j n1 _ => up1.2.1 j n1
    refine (m_feedLoop h4 21 0 gb _ _ (by omega) (by omega) hG f0 up1_q up1.2.2.1 up1.2.2.2).mono (fun o h' ho => ?_)
    obtain ⟨v, y1, y2, F', gb', y3, y4, y5, y6, y7⟩ := ho
    exact ⟨v, y1, F', gb', tp + 20, y3, y5, y6, y7, Or.inr ⟨h4, rfl, y4, y2⟩⟩
  · have h4 : ¬ tp + 20 ≤ 4096 := fun z => b0 (nI_le (b := 4096) z (by omega))
    refine xT.s1 hM rfl rfl ?_
    refine xT.s1 hM rfl rfl ?_
    refine xT.go hM rfl rfl rfl rfl rfl rfl (xc_virt rfl rfl rfl hq ⟨rfl, Nat.le_of_ble_eq_true rfl, rfl, Or.inl rfl⟩) rfl ⟨Nat.le_of_ble_eq_true rfl, Nat.le_of_ble_eq_true rfl, by decide⟩ (m_fail hG) (fun v h2 hv => ?_)
    obtain ⟨rfl, F', hG', y1, y2, y3, y4⟩ := hv
    exact xT.ret hM rfl rfl rfl rfl (⟨_, rfl, F', gb, tp, hG', fun k n1 _ => (y1 k n1).trans (up1.2.1 k n1), y2.trans up1.2.2.1, y3.trans up1.2.2.2, Or.inl ⟨h4, rfl, y4, rfl⟩⟩)
end XME
