/-! the law: class and reference side by side -/
def l_I (e : xE) (h : ab_H) (q0 qt qb ql qa qo q q8 k len : Nat) : Prop := ∃ (gb gm : Nat → Int32) (cap capm nn : Nat) (y : Int64) (F : List Value) (R : Nat → Nat) (A : m_AT), w_S h q0 qt qb ql qa qo gb len cap y ∧ m_G e h q q8 gm F len nn capm R A ∧ (qb < e.2.2.2.2.2 ∧ ql < e.2.2.2.2.2 ∧ q8 ≠ qb ∧ q8 ≠ ql) ∧ 320 * h.length + 5200 * len ≤ 10000 + 110000 * k + 30 * capm + 64 * cap ∧ ab_sz h + 92 * len ≤ 20000 + 2000 * k + 12 * capm + 4 * cap
section XLW
variable {e : xE} {d q0 qt qb ql qa qo q q8 len tp cap nn capm k : Nat} {gb gm gm2 : Nat → Int32} {h h' : ab_H} {y : Int64} {F F2 : List Value} {R R2 : Nat → Nat} {A A2 : m_AT} {Q : ab_O → ab_H → Prop}
theorem xT.sld {mi pc ln tg j : Nat} {L : ab_L} {S : List Value} {M : ab_M} {x : Int32} (hM : (x_mt e.1)[mi]? = some M) (hf : ab_fe M pc = some (.iaload, ln, tg)) (hx : x = nI j) (hj : j < e.2.1) (hL : e.2.1 < 2 ^ 31) (t : xT e d mi (pc + 1) L (.int (e.2.2.1 j) :: S) h Q) : xT e d mi pc L (.int x :: .float 0 :: S) h Q := by
  subst hx
  have hz : x_oa e.2.1 e.2.2.1 (0 : UInt32).toNat = some (.int, e.2.1, fun j => .int (e.2.2.1 j)) := rfl
  refine xT.s2 hM hf rfl (pc' := pc + 1) (S' := .int (e.2.2.1 j) :: S) (h2 := h) ?_ t
  simp only [ab_s2, ab_ald, hz]
  rw [if_pos ⟨trivial, x_ixN hj hL⟩, x_clampN (by omega)]
theorem xT.slen {mi pc ln tg : Nat} {L : ab_L} {S : List Value} {M : ab_M} (hM : (x_mt e.1)[mi]? = some M) (hf : ab_fe M pc = some (.arraylength, ln, tg)) (t : xT e d mi (pc + 1) L (.int (nI e.2.1) :: S) h Q) : xT e d mi pc L (.float 0 :: S) h Q :=
  xT.s2 hM hf rfl (pc' := pc + 1) (S' := .int (nI e.2.1) :: S) (h2 := h) rfl t
theorem xT.lald {mi pc ln tg j n k : Nat} {L : ab_L} {S : List Value} {M : ab_M} {f : Nat → Value} (hM : (x_mt e.1)[mi]? = some M) (hf : ab_fe M pc = some (.laload, ln, tg)) (hj : h[j]? = some (.inl (2, n, f))) (hk : k < n) (hn : n < 2 ^ 31) (t : xT e d mi (pc + 1) L (f k :: S) h Q) : xT e d mi pc L (.int (nI k) :: .ref j :: S) h Q := by
  refine xT.s2 hM hf rfl (pc' := pc + 1) (S' := f k :: S) (h2 := h) ?_ t
  simp only [ab_s2, ab_ald, hj]
  rw [if_pos ⟨rfl, x_ixN hk hn⟩, x_clampN (by omega)]
theorem xT.n10 {mi pc : Nat} {L : ab_L} {S : List Value} (t : xT e d mi pc L S h Q) (h1 : 10 ≤ mi) (h2 : mi ≤ 92) : xT e d mi pc L S h (fun o h' => Q o h' ∧ x_N10 h h') := by
  obtain ⟨o, h', ⟨K, hr⟩, q⟩ := t
  exact ⟨o, h', ⟨K, hr⟩, q, x_run_10 (x_mt10 e.1) _ _ _ _ _ _ _ _ _ h1 h2 (hr 0)⟩
theorem l_cmp {L i : Nat} (hL : L ≤ 3072) (hi : i ≤ 4000) (hb : ¬ nI L - (Int8.ofInt 6).toInt32 < nI i) : i + 6 ≤ L := by
  have e1 : (nI L - (Int8.ofInt 6).toInt32).toInt = (L : Int) - 6 := by
    rw [Int32.toInt_sub, nI_toInt (by omega), show ((Int8.ofInt 6).toInt32).toInt = 6 from by decide]
    exact Int.bmod_eq_of_le (by omega) (by omega)
  rw [Int32.lt_iff_toInt_lt, e1, nI_toInt (by omega)] at hb
  omega
theorem l_rows (hW : w_S h q0 qt qb ql qa qo gb len cap y) : (∃ f, h[qb]? = some (.inl (0, 4096, f))) ∧ (∃ f, h[ql]? = some (.inl (0, 4096, f))) ∧ (∃ f, h[qo]? = some (.inl (2, 1, f))) ∧ c_TY h ∧ len ≤ 4096 := by
  obtain ⟨⟨th, ta, qe, sz, kh, bh, eh, ka, ba, ea, hS, hs⟩, hc2, fo, ho, ho1⟩ := hW
  obtain ⟨-, ⟨Ft, gl, kp, ht, lt, t0, t1, t2, t3, t4, t5, hb8, hl8, -, l4, -⟩, -, -, -, -, hY⟩ := hS
  exact ⟨⟨_, hb8⟩, ⟨_, hl8⟩, ⟨_, ho⟩, hY, l4⟩
/-- what the class does leaves the reference as it is -/
theorem l_mk (hW : w_S h q0 qt qb ql qa qo gb len cap y) (hG : m_G e h q q8 gm F tp nn capm R A) (s1 : qb < e.2.2.2.2.2) (s2 : ql < e.2.2.2.2.2) (s3 : q8 ≠ qb) (s4 : q8 ≠ ql) (fr : w_fr h h' qb ql qo) (hl : h.length ≤ h'.length) : m_G e h' q q8 gm F tp nn capm R A := by
  obtain ⟨⟨fb, hb⟩, ⟨fl, hl8⟩, ⟨fo, ho⟩, -, -⟩ := l_rows hW
  have h8 := hG.h8.1
  refine hG.kept (fr q8 _ h8 s3 s4 (x_neq h8 ho (by simp)) (by simp) (by simp)) hl ?_ ?_ ?_
  · intro k ci G hk hc
    refine fr k _ hk (x_neq hk hb (by simp)) (x_neq hk hl8 (by simp)) (x_neq hk ho (by simp)) ?_ (by simp)
    intro c' G' hG'
    cases hG'
    omega
  · intro k t n f hk ht
    refine fr k _ hk (x_neq hk hb ?_) (x_neq hk hl8 ?_) (x_neq hk ho ?_) (by simp) ?_
    all_goals rcases ht with rfl | rfl | rfl <;> simp
  · intro k n f hk he
    exact fr k _ hk (by omega) (by omega) (x_neq hk ho (by simp)) (by simp) (by simp)
/-- what the reference does leaves the class as it is -/
theorem l_wk (hW : w_S h q0 qt qb ql qa qo gb len cap y) (x : ∀ (k : Nat) (x : ab_E), h[k]? = some x → (∀ G, x ≠ .inr (3, G)) → (∀ t n f, x = .inl (t, n, f) → t = 0 ∨ t = 2 ∨ t = 5) → k ≠ q8 → h'[k]? = some x) (n1 : q8 ≠ qb) (n2 : q8 ≠ ql) {g8 : Nat → Value} (h8 : h[q8]? = some (.inl (0, 4096, g8))) (hY' : c_TY h') : w_S h' q0 qt qb ql qa qo gb len cap y := by
  obtain ⟨⟨th, ta, qe, sz, kh, bh, eh, ka, ba, ea, hS, hs⟩, hc2, fo, ho, ho1⟩ := hW
  have ko : ∀ (k ci : Nat) (F : List Value), h[k]? = some (.inr (ci, F)) → ci ≠ 3 → h'[k]? = some (.inr (ci, F)) := fun k ci F hk hc => x k _ hk (by intro G hG; cases hG; exact hc rfl) (by intro t n f hG; cases hG) (x_neq hk h8 (by simp))
  have kr : ∀ (k t n : Nat) (f : Nat → Value), h[k]? = some (.inl (t, n, f)) → (t = 0 ∨ t = 2 ∨ t = 5) → k ≠ q8 → h'[k]? = some (.inl (t, n, f)) := fun k t n f hk ht hn => x k _ hk (by intro G hG; cases hG) (by intro t' n' f' hG; cases hG; exact ht) hn
  obtain ⟨⟨F0, hq, r0⟩, ⟨Ft, gl, kp, ht, lt, t0, t1, t2, t3, t4, t5, hb8, hl8, r1⟩, hH, hA, hht, ⟨Fa, ef, ha, la, f1, f2, hd, hs', hc, hN⟩, hY⟩ := hS
  refine ⟨⟨th, ta, qe, sz, kh, bh, eh, ka, ba, ea, ⟨⟨F0, ko _ _ _ hq (by decide), r0⟩, ⟨Ft, gl, kp, ko _ _ _ ht (by decide), lt, t0, t1, t2, t3, t4, t5, kr _ _ _ _ hb8 (Or.inl rfl) (Ne.symm n1), kr _ _ _ _ hl8 (Or.inl rfl) (Ne.symm n2), r1⟩, hH.kept (fun F hk => ko _ _ _ hk (by decide)), hA.kept (fun F hk => ko _ _ _ hk (by decide)), hht, ⟨Fa, ef, ko _ _ _ ha (by decide), la, f1, f2, ?_, hs', hc, fun i hi => (hN i hi).kept (fun k G hk => ⟨G, ko _ _ _ hk (by decide)⟩)⟩, hY'⟩, hs⟩, hc2, fo, kr _ _ _ _ ho (Or.inr (Or.inl rfl)) (x_neq ho h8 (by simp)), ho1⟩
  rcases hd with z | ⟨z1, z2, z3⟩
  · exact Or.inl z
  · exact Or.inr ⟨z1, kr _ _ _ _ z2 (Or.inr (Or.inr rfl)) (x_neq z2 h8 (by simp)), z3⟩
theorem l_wk2 (hW : w_S h q0 qt qb ql qa qo gb len cap y) (hG : m_G e h q q8 gm F tp nn capm R A) (n1 : q8 ≠ qb) (n2 : q8 ≠ ql) {tp2 nn2 cp2 : Nat} (hG2 : m_G e h' q q8 gm2 F2 tp2 nn2 cp2 R2 A2) (u : ∀ k, k ≠ q → k ≠ q8 → h'[k]? = h[k]?) : w_S h' q0 qt qb ql qa qo gb len cap y := by
  refine l_wk hW (fun k x hk a b c => (u k (fun hkq => ?_) c).trans hk) n1 n2 hG.h8.1 (fun k G hk => ?_)
  · subst hkq
    rw [hG.cell] at hk
    exact a _ (Option.some.inj hk).symm
  · by_cases k1 : k = q
    · subst k1
      exact absurd (Option.some.inj (hG2.cell.symm.trans hk)) (by simp)
    · by_cases k2 : k = q8
      · subst k2
        exact absurd (Option.some.inj (hG2.h8.1.symm.trans hk)) (by simp)
      · rw [u k k1 k2] at hk
        exact (l_rows hW).2.2.2.1 k G hk
theorem l_wk7 (hW : w_S h q0 qt qb ql qa qo gb len cap y) (hG : m_G e h q q8 gm F tp nn capm R A) (n1 : q8 ≠ qb) (n2 : q8 ≠ ql) (st : m_st7 h h' q q8 R) (n : x_N10 h h') : w_S h' q0 qt qb ql qa qo gb len cap y := by
  have hR : ∀ j, j < 6 → ∃ t n f, h[R j]? = some (.inl (t, n, f)) ∧ (t = 1 ∨ t = 3 ∨ t = 4) := by
    obtain ⟨r0, r1, r2, r3, r4, r5⟩ := hG.2.2.2.1.2.2.1
    intro j hj
    match j, hj with
    | 0, _ => exact ⟨_, _, _, r0, by decide⟩
    | 1, _ => exact ⟨_, _, _, r1, by decide⟩
    | 2, _ => exact ⟨_, _, _, r2, by decide⟩
    | 3, _ => exact ⟨_, _, _, r3, by decide⟩
    | 4, _ => exact ⟨_, _, _, r4, by decide⟩
    | 5, _ => exact ⟨_, _, _, r5, by decide⟩
    | j + 6, hj => omega
  have h8 := hG.h8.1
  refine l_wk hW (fun k x hk a b c => st k x hk (fun hkq => ?_) c (fun j hj hkj => ?_)) n1 n2 h8 (fun k G hk => ?_)
  · subst hkq
    rw [hG.cell] at hk
    exact a _ (Option.some.inj hk).symm
  · obtain ⟨t, m, f, r1, r2⟩ := hR j hj
    rw [← hkj, hk] at r1
    have := b t m f (Option.some.inj r1)
    omega
  · obtain ⟨G', k1⟩ := n k G hk
    have k2 := st k _ k1 (x_neq k1 hG.cell (by simp)) (x_neq k1 h8 (by simp)) (fun j hj hkj => by
      obtain ⟨t, m, f, r1, r2⟩ := hR j hj
      rw [← hkj, k1] at r1
      cases r1)
    rw [hk] at k2
    cases k2
    exact (l_rows hW).2.2.2.1 k _ k1
theorem m_read10 (hJ : e.1 = .null ∨ ∃ w, e.1 = .float w) (hG : m_G e h q q8 gm F tp nn capm R A) (r1 : 64 * h.length + 528 * (tp + 2) + 448 * tp + 6 * (16384 - capm) + 60000 ≤ 64 * e.2.2.2.1) (r2 : ab_sz h + 58 * (tp + 2) + 27 * tp + 12 * (16384 - capm) + 80000 ≤ e.2.2.2.2.1) : xT e (d + 200) 37 0 [(0, .ref q)] [] h (fun o h' => ∃ v, o = .inl v ∧ (∃ z : Int32, v = some (.int z)) ∧ (∃ F' nn' cap' R' A', m_G e h' q q8 gm F' 0 nn' cap' R' A' ∧ m_st7 h h' q q8 R ∧ h.length ≤ h'.length ∧ capm ≤ cap' ∧ 64 * h'.length + 6 * capm ≤ 64 * h.length + 528 * (tp + 2) + 448 * tp + 64 + 6 * cap' ∧ ab_sz h' + 12 * capm ≤ ab_sz h + 58 * (tp + 2) + 27 * tp + 6 + 12 * cap') ∧ x_N10 h h') := by
  refine ((m_read hJ hG r1 r2).n10 (by decide) (by decide)).mono (fun o h' ho => ?_)
  obtain ⟨⟨v, e1, zz, F', nn', cap', R', A', k1, k2, k3, k4, k5, k6, k7⟩, n⟩ := ho
  exact ⟨v, e1, zz, ⟨F', nn', cap', R', A', k1, k2, k4, k5, k6, k7⟩, n⟩
theorem l_idle (I : l_I e h q0 qt qb ql qa qo q q8 k len) : l_I e h q0 qt qb ql qa qo q q8 (k + 1) len := by
  obtain ⟨gb, gm, cap, capm, nn, y, F, R, A, hW, hG, s, c1, c2⟩ := I
  exact ⟨gb, gm, cap, capm, nn, y, F, R, A, hW, hG, s, by omega, by omega⟩
end XLW
