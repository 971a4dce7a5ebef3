/-! the reference: its nodes -/
theorem xT.alN2 {e : xE} {d mi pc len tg : Nat} {L : ab_L} {S : List Value} {h : ab_H} {Q : ab_O → ab_H → Prop} {M : ab_M} {v : Value} {i} (hM : (x_mt e.1)[mi]? = some M) (hf : ab_fe M pc = some (.aload i, len, tg)) (hg : ab_get L i = some v) (hv : v = .null ∨ x_rv v) (t : xT e d mi (pc + 2) L (v :: S) h Q) : xT e d mi pc L S h Q := by
  rcases hv with z | z
  · subst z
    exact xT.s1 hM hf (by simp only [ab_s1, hg]) t
  · exact xT.al2 hM hf hg z t
/-- the rows of nodes: nn of cap in use -/
def m_D (h : ab_H) (q : Nat) (F : List Value) (nn cap ra rb rc rd re rf : Nat) (va nb : Nat → Value) (kb pb cb ab : Nat → Int32) : Prop := (h[q]? = some (.inr (3, F)) ∧ F.length = 21 ∧ F[14]? = some (.int (nI nn))) ∧ (F[15]? = some (.ref ra) ∧ F[16]? = some (.ref rb) ∧ F[17]? = some (.ref rc) ∧ F[18]? = some (.ref rd) ∧ F[19]? = some (.ref re) ∧ F[20]? = some (.ref rf)) ∧ (h[ra]? = some (.inl (4, cap, va)) ∧ h[rb]? = some (.inl (1, cap, fun j => .int (kb j))) ∧ h[rc]? = some (.inl (1, cap, fun j => .int (pb j))) ∧ h[rd]? = some (.inl (1, cap, fun j => .int (cb j))) ∧ h[re]? = some (.inl (1, cap, fun j => .int (ab j))) ∧ h[rf]? = some (.inl (3, cap, nb))) ∧ (rb ≠ rc ∧ rb ≠ rd ∧ rb ≠ re ∧ rc ≠ rd ∧ rc ≠ re ∧ rd ≠ re) ∧ (nn ≤ cap ∧ 64 ≤ cap ∧ cap ≤ 32768)
section XND
variable {e : xE} {d q nn cap ra rb rc rd re rf b : Nat} {h : ab_H} {F Gb : List Value} {va nb : Nat → Value} {kb pb cb ab : Nat → Int32} {nm : Value} {k p c ar : Int32}
theorem m_nodeT (hD : m_D h q F nn cap ra rb rc rd re rf va nb kb pb cb ab) (hlt : nn < cap) (hbb : h[b]? = some (.inr (11, Gb))) (hnm : nm = .null ∨ ∃ n, j_str e h nm n) : xT e d 33 184 [(0, .ref q), (1, .int k), (2, .int p), (3, .int c), (4, .ref b), (5, nm), (6, .int ar)] [] h (fun o h' => ∃ v, o = .inl v ∧ v = some (.int (nI nn)) ∧ ∃ F' va' nb' kb' pb' cb' ab', m_D h' q F' (nn + 1) cap ra rb rc rd re rf va' nb' kb' pb' cb' ab' ∧ (∀ i, i < nn → va' i = va i ∧ kb' i = kb i ∧ cb' i = cb i ∧ ab' i = ab i ∧ nb' i = nb i) ∧ va' nn = .ref b ∧ kb' nn = k ∧ cb' nn = c ∧ ab' nn = ar ∧ nb' nn = nm ∧ (∀ i, i < 14 → F'[i]? = F[i]?) ∧ (∀ (k : Nat) (x : ab_E), h[k]? = some x → k ≠ q → k ≠ ra → k ≠ rb → k ≠ rc → k ≠ rd → k ≠ re → k ≠ rf → h'[k]? = some x) ∧ h'.length = h.length ∧ ab_sz h' = ab_sz h) := by
  have hM : (x_mt e.1)[33]? = some xM33 := rfl
  obtain ⟨⟨hq, hl, f14⟩, ⟨f15, f16, f17, f18, f19, f20⟩, ⟨ha, hb, hc, hd, he, hf⟩, ⟨n1, n2, n3, n4, n5, n6⟩, ⟨c1, c2, c3⟩⟩ := id hD
  have hq0 := hq
  have ha0 := ha
  have hb0 := hb
  have hc0 := hc
  have hd0 := hd
  have he0 := he
  have hf0 := hf
  refine xT.s1 hM rfl rfl ?_
  refine xT.s2 hM rfl rfl (x2_get rfl (Or.inl rfl) hq f15) ?_
  refine xT.s1 hM rfl rfl ?_
  refine xT.s2 hM rfl rfl (x2_get rfl (Or.inl rfl) hq f14) ?_
  refine xT.s1 hM rfl rfl ?_
  refine xT.aast hM rfl rfl rfl ha rfl (Or.inr (Or.inl ⟨b, 11, Gb, rfl, hbb, by decide⟩)) hlt (by omega) (fun s1 e1 u1 => ?_)
  replace hq := (u1.2.1 _ (x_neq hq ha (by simp))).trans hq
  replace hb := (u1.2.1 _ (x_neq hb ha (by simp))).trans hb
  replace hc := (u1.2.1 _ (x_neq hc ha (by simp))).trans hc
  replace hd := (u1.2.1 _ (x_neq hd ha (by simp))).trans hd
  replace he := (u1.2.1 _ (x_neq he ha (by simp))).trans he
  replace hf := (u1.2.1 _ (x_neq hf ha (by simp))).trans hf
  replace ha := u1.1
  refine xT.s1 hM rfl rfl ?_
  refine xT.s2 hM rfl rfl (x2_get rfl (Or.inl rfl) hq f16) ?_
  refine xT.s1 hM rfl rfl ?_
  refine xT.s2 hM rfl rfl (x2_get rfl (Or.inl rfl) hq f14) ?_
  refine xT.s1 hM rfl rfl ?_
  refine xT.iast hM rfl hb hlt (by omega) (fun s2 e2 u2 => ?_)
  rw [x_updI] at u2
  replace hq := (u2.2.1 _ (x_neq hq hb (by simp))).trans hq
  replace ha := (u2.2.1 _ (x_neq ha hb (by simp))).trans ha
  replace hc := (u2.2.1 _ (Ne.symm n1)).trans hc
  replace hd := (u2.2.1 _ (Ne.symm n2)).trans hd
  replace he := (u2.2.1 _ (Ne.symm n3)).trans he
  replace hf := (u2.2.1 _ (x_neq hf hb (by simp))).trans hf
  replace hb := u2.1
  refine xT.s1 hM rfl rfl ?_
  refine xT.s2 hM rfl rfl (x2_get rfl (Or.inl rfl) hq f17) ?_
  refine xT.s1 hM rfl rfl ?_
  refine xT.s2 hM rfl rfl (x2_get rfl (Or.inl rfl) hq f14) ?_
  refine xT.s1 hM rfl rfl ?_
  refine xT.iast hM rfl hc hlt (by omega) (fun s3 e3 u3 => ?_)
  rw [x_updI] at u3
  replace hq := (u3.2.1 _ (x_neq hq hc (by simp))).trans hq
  replace ha := (u3.2.1 _ (x_neq ha hc (by simp))).trans ha
  replace hb := (u3.2.1 _ (n1)).trans hb
  replace hd := (u3.2.1 _ (Ne.symm n4)).trans hd
  replace he := (u3.2.1 _ (Ne.symm n5)).trans he
  replace hf := (u3.2.1 _ (x_neq hf hc (by simp))).trans hf
  replace hc := u3.1
  refine xT.s1 hM rfl rfl ?_
  refine xT.s2 hM rfl rfl (x2_get rfl (Or.inl rfl) hq f18) ?_
  refine xT.s1 hM rfl rfl ?_
  refine xT.s2 hM rfl rfl (x2_get rfl (Or.inl rfl) hq f14) ?_
  refine xT.s1 hM rfl rfl ?_
  refine xT.iast hM rfl hd hlt (by omega) (fun s4 e4 u4 => ?_)
  rw [x_updI] at u4
  replace hq := (u4.2.1 _ (x_neq hq hd (by simp))).trans hq
  replace ha := (u4.2.1 _ (x_neq ha hd (by simp))).trans ha
  replace hb := (u4.2.1 _ (n2)).trans hb
  replace hc := (u4.2.1 _ (n4)).trans hc
  replace he := (u4.2.1 _ (Ne.symm n6)).trans he
  replace hf := (u4.2.1 _ (x_neq hf hd (by simp))).trans hf
  replace hd := u4.1
  refine xT.s1 hM rfl rfl ?_
  refine xT.s2 hM rfl rfl (x2_get rfl (Or.inl rfl) hq f19) ?_
  refine xT.s1 hM rfl rfl ?_
  refine xT.s2 hM rfl rfl (x2_get rfl (Or.inl rfl) hq f14) ?_
  refine xT.s1 hM rfl rfl ?_
  refine xT.iast hM rfl he hlt (by omega) (fun s5 e5 u5 => ?_)
  rw [x_updI] at u5
  replace hq := (u5.2.1 _ (x_neq hq he (by simp))).trans hq
  replace ha := (u5.2.1 _ (x_neq ha he (by simp))).trans ha
  replace hb := (u5.2.1 _ (n3)).trans hb
  replace hc := (u5.2.1 _ (n5)).trans hc
  replace hd := (u5.2.1 _ (n6)).trans hd
  replace hf := (u5.2.1 _ (x_neq hf he (by simp))).trans hf
  replace he := u5.1
  refine xT.s1 hM rfl rfl ?_
  refine xT.s2 hM rfl rfl (x2_get rfl (Or.inl rfl) hq f20) ?_
  refine xT.s1 hM rfl rfl ?_
  refine xT.s2 hM rfl rfl (x2_get rfl (Or.inl rfl) hq f14) ?_
  have hnv : nm = .null ∨ x_rv nm := by
    rcases hnm with z | ⟨n, z⟩
    · exact Or.inl z
    · exact Or.inr z.rv
  refine xT.alN2 hM rfl rfl hnv ?_
  have fr5 : ∀ (k : Nat) (x : ab_E), h[k]? = some x → k ≠ ra → k ≠ rb → k ≠ rc → k ≠ rd → k ≠ re → s5[k]? = some x := fun k x hk z1 z2 z3 z4 z5 => (u5.2.1 k z5).trans ((u4.2.1 k z4).trans ((u3.2.1 k z3).trans ((u2.2.1 k z2).trans ((u1.2.1 k z1).trans hk))))
  have hnm5 : nm = .null ∨ ∃ n, j_str e s5 nm n := by
    rcases hnm with z | ⟨m, z⟩
    · exact Or.inl z
    · exact Or.inr ⟨m, z.by (fun k F hk => fr5 k _ hk (x_neq hk ha0 (by simp)) (x_neq hk hb0 (by simp)) (x_neq hk hc0 (by simp)) (x_neq hk hd0 (by simp)) (x_neq hk he0 (by simp))) (fun k n f hk => fr5 k _ hk (x_neq hk ha0 (by simp)) (x_neq hk hb0 (by simp)) (x_neq hk hc0 (by simp)) (x_neq hk hd0 (by simp)) (x_neq hk he0 (by simp)))⟩
  refine xT.aast hM rfl rfl rfl hf rfl (x_el.str hnm5) hlt (by omega) (fun s6 e6 u6 => ?_)
  replace hq := (u6.2.1 _ (x_neq hq hf (by simp))).trans hq
  replace ha := (u6.2.1 _ (x_neq ha hf (by simp))).trans ha
  replace hb := (u6.2.1 _ (x_neq hb hf (by simp))).trans hb
  replace hc := (u6.2.1 _ (x_neq hc hf (by simp))).trans hc
  replace hd := (u6.2.1 _ (x_neq hd hf (by simp))).trans hd
  replace he := (u6.2.1 _ (x_neq he hf (by simp))).trans he
  replace hf := u6.1
  refine xT.s1 hM rfl rfl ?_
  refine xT.s1 hM rfl rfl ?_
  refine xT.s2 hM rfl rfl (x2_get rfl (Or.inl rfl) hq f14) ?_
  refine xT.s1 hM rfl rfl ?_
  refine xT.s1 hM rfl rfl ?_
  refine xT.s1 hM rfl rfl ?_
  rw [show nI nn + Int32.ofInt 1 = nI (nn + 1) from nI_add nn 1]
  refine xT.put hM rfl rfl hq (Or.inl rfl) (by rw [hl]; decide) (rfl) (Or.inl rfl) (fun h_1 F_1 eF1 eh1 up1 fb1 fo1 fl1 => ?_)
  replace ha := (up1.2.1 _ (x_neq ha hq (by simp))).trans ha
  replace hb := (up1.2.1 _ (x_neq hb hq (by simp))).trans hb
  replace hc := (up1.2.1 _ (x_neq hc hq (by simp))).trans hc
  replace hd := (up1.2.1 _ (x_neq hd hq (by simp))).trans hd
  replace he := (up1.2.1 _ (x_neq he hq (by simp))).trans he
  replace hf := (up1.2.1 _ (x_neq hf hq (by simp))).trans hf
  replace hq := up1.1
  replace hl := fl1.trans hl
  replace f15 := (fo1 15 (by decide)).trans f15
  replace f16 := (fo1 16 (by decide)).trans f16
  replace f17 := (fo1 17 (by decide)).trans f17
  replace f18 := (fo1 18 (by decide)).trans f18
  replace f19 := (fo1 19 (by decide)).trans f19
  replace f20 := (fo1 20 (by decide)).trans f20
  replace f14 := fb1
  have frA : ∀ (k : Nat) (x : ab_E), h[k]? = some x → k ≠ q → k ≠ ra → k ≠ rb → k ≠ rc → k ≠ rd → k ≠ re → k ≠ rf → h_1[k]? = some x := fun k x hk z0 z1 z2 z3 z4 z5 z6 => (up1.2.1 k z0).trans ((u6.2.1 k z6).trans (fr5 k x hk z1 z2 z3 z4 z5))
  exact xT.ret hM rfl rfl rfl rfl (⟨_, rfl, rfl, _, _, _, _, _, _, _, ⟨⟨hq, hl, f14⟩, ⟨f15, f16, f17, f18, f19, f20⟩, ⟨ha, hb, hc, hd, he, hf⟩, ⟨n1, n2, n3, n4, n5, n6⟩, ⟨hlt, c2, c3⟩⟩, fun i hi => ⟨x_upd0 (by omega), if_neg (by omega), if_neg (by omega), if_neg (by omega), x_upd0 (by omega)⟩, x_upd1 _ _ _, if_pos rfl, if_pos rfl, if_pos rfl, x_upd1 _ _ _, fun i hi => fo1 i (by omega), frA, by rw [up1.2.2.1, u6.2.2.1, u5.2.2.1, u4.2.2.1, u3.2.2.1, u2.2.2.1, u1.2.2.1], by rw [up1.2.2.2, u6.2.2.2, u5.2.2.2, u4.2.2.2, u3.2.2.2, u2.2.2.2, u1.2.2.2]⟩)
theorem x_el.ext {h h' : ab_H} {t0 : Nat} {v : Value} (k : x_el h t0 v) (x : ∀ (k : Nat) (x : ab_E), h[k]? = some x → h'[k]? = some x) : x_el h' t0 v := by
  rcases k with z | ⟨a, ci, F, z1, z2, z3⟩ | z
  · exact Or.inl z
  · exact Or.inr (Or.inl ⟨a, ci, F, z1, x _ _ z2, z3⟩)
  · exact Or.inr (Or.inr z)
theorem m_nodeL {Q : ab_O → ab_H → Prop} (hD : m_D h q F nn nn ra rb rc rd re rf va nb kb pb cb ab) (hel : ∀ i, i < nn → x_el h 4 (va i) ∧ x_el h 3 (nb i)) (K : ∀ (h1 : ab_H) (g1 g6 : Nat → Value) (g2 g3 g4 g5 : Nat → Int32), (∀ i, i < nn → g1 i = va i) → (∀ i, i < nn → g2 i = kb i) → (∀ i, i < nn → g3 i = pb i) → (∀ i, i < nn → g4 i = cb i) → (∀ i, i < nn → g5 i = ab i) → (∀ i, i < nn → g6 i = nb i) → (∀ (k : Nat) (x : ab_E), h[k]? = some x → h1[k]? = some x) → h1[h.length]? = some (.inl (4, 2 * nn, g1)) → h1[h.length + 1]? = some (.inl (1, 2 * nn, fun j => .int (g2 j))) → h1[h.length + 2]? = some (.inl (1, 2 * nn, fun j => .int (g3 j))) → h1[h.length + 3]? = some (.inl (1, 2 * nn, fun j => .int (g4 j))) → h1[h.length + 4]? = some (.inl (1, 2 * nn, fun j => .int (g5 j))) → h1[h.length + 5]? = some (.inl (3, 2 * nn, g6)) → h1.length = h.length + 6 → ab_sz h1 = ab_sz h + 12 * nn → xT e d 33 148 [(14, .int (nI nn)), (13, .ref (h.length + 5)), (12, .ref (h.length + 4)), (11, .ref (h.length + 3)), (10, .ref (h.length + 2)), (9, .ref (h.length + 1)), (8, .ref h.length), (7, .int (nI (2 * nn))), (0, .ref q), (1, .int k), (2, .int p), (3, .int c), (4, .ref b), (5, nm), (6, .int ar)] [] h1 Q) : ∀ (m i : Nat) (h1 : ab_H) (g1 g6 : Nat → Value) (g2 g3 g4 g5 : Nat → Int32), nn - i < m → i ≤ nn → (∀ j, j < i → g1 j = va j) → (∀ j, j < i → g2 j = kb j) → (∀ j, j < i → g3 j = pb j) → (∀ j, j < i → g4 j = cb j) → (∀ j, j < i → g5 j = ab j) → (∀ j, j < i → g6 j = nb j) → (∀ (k : Nat) (x : ab_E), h[k]? = some x → h1[k]? = some x) → h1[h.length]? = some (.inl (4, 2 * nn, g1)) → h1[h.length + 1]? = some (.inl (1, 2 * nn, fun j => .int (g2 j))) → h1[h.length + 2]? = some (.inl (1, 2 * nn, fun j => .int (g3 j))) → h1[h.length + 3]? = some (.inl (1, 2 * nn, fun j => .int (g4 j))) → h1[h.length + 4]? = some (.inl (1, 2 * nn, fun j => .int (g5 j))) → h1[h.length + 5]? = some (.inl (3, 2 * nn, g6)) → h1.length = h.length + 6 → ab_sz h1 = ab_sz h + 12 * nn → xT e d 33 61 [(14, .int (nI i)), (13, .ref (h.length + 5)), (12, .ref (h.length + 4)), (11, .ref (h.length + 3)), (10, .ref (h.length + 2)), (9, .ref (h.length + 1)), (8, .ref h.length), (7, .int (nI (2 * nn))), (0, .ref q), (1, .int k), (2, .int p), (3, .int c), (4, .ref b), (5, nm), (6, .int ar)] [] h1 Q := by
  have hM : (x_mt e.1)[33]? = some xM33 := rfl
  obtain ⟨⟨hq, hl, f14⟩, ⟨f15, f16, f17, f18, f19, f20⟩, ⟨ha, hb, hc, hd, he, hf⟩, ⟨n1, n2, n3, n4, n5, n6⟩, ⟨c1, c2, c3⟩⟩ := id hD
  intro m
  induction m with
  | zero => intro i h1 g1 g6 g2 g3 g4 g5 m1; omega
  | succ m ih =>
    intro i h1 g1 g6 g2 g3 g4 g5 m1 m2 q1 q2 q3 q4 q5 q6 fr w1 w2 w3 w4 w5 w6 z1 z2
    refine xT.s1 hM rfl rfl ?_
    refine xT.s1 hM rfl rfl ?_
    refine xT.s2 hM rfl rfl (x2_get rfl (Or.inl rfl) (fr _ _ hq) f14) ?_
    refine xT.s1 hM rfl rfl ?_
    refine xT.br (fun hb0 => ?_) (fun hb0 => ?_)
    · have ek : i = nn := Nat.le_antisymm m2 ((nI_leI (by omega) (by omega)).mp hb0)
      subst ek
      exact K h1 g1 g6 g2 g3 g4 g5 q1 q2 q3 q4 q5 q6 fr w1 w2 w3 w4 w5 w6 z1 z2
    · have hi : i < nn := Nat.lt_of_not_le (fun z => hb0 (nI_le z (by omega)))
      obtain ⟨xa, xn⟩ := hel i hi
      refine xT.s1 hM rfl rfl ?_
      refine xT.s1 hM rfl rfl ?_
      refine xT.s1 hM rfl rfl ?_
      refine xT.s2 hM rfl rfl (x2_get rfl (Or.inl rfl) (fr _ _ hq) f15) ?_
      refine xT.s1 hM rfl rfl ?_
      refine xT.aald hM rfl (fr _ _ ha) rfl (by omega) (by omega) ?_
      have xa0 := xa.ext fr
      refine xT.aast hM rfl rfl rfl w1 rfl xa0 (by omega) (by omega) (fun t0 e0 u0 => ?_)
      have fr0 : ∀ (k : Nat) (x : ab_E), h[k]? = some x → t0[k]? = some x := fun k x hk => (u0.2.1 k (by have := x_lt hk; omega)).trans (fr k x hk)
      replace w2 := (u0.2.1 _ (by omega)).trans w2
      replace w3 := (u0.2.1 _ (by omega)).trans w3
      replace w4 := (u0.2.1 _ (by omega)).trans w4
      replace w5 := (u0.2.1 _ (by omega)).trans w5
      replace w6 := (u0.2.1 _ (by omega)).trans w6
      replace w1 := u0.1
      refine xT.s1 hM rfl rfl ?_
      refine xT.s1 hM rfl rfl ?_
      refine xT.s1 hM rfl rfl ?_
      refine xT.s2 hM rfl rfl (x2_get rfl (Or.inl rfl) (fr0 _ _ hq) f16) ?_
      refine xT.s1 hM rfl rfl ?_
      refine xT.iald hM rfl (fr0 _ _ hb) (by omega) (by omega) ?_
      refine xT.iast hM rfl w2 (by omega) (by omega) (fun t1 e1 u1 => ?_)
      rw [x_updI] at u1
      have fr1 : ∀ (k : Nat) (x : ab_E), h[k]? = some x → t1[k]? = some x := fun k x hk => (u1.2.1 k (by have := x_lt hk; omega)).trans (fr0 k x hk)
      replace w1 := (u1.2.1 _ (by omega)).trans w1
      replace w3 := (u1.2.1 _ (by omega)).trans w3
      replace w4 := (u1.2.1 _ (by omega)).trans w4
      replace w5 := (u1.2.1 _ (by omega)).trans w5
      replace w6 := (u1.2.1 _ (by omega)).trans w6
      replace w2 := u1.1
      refine xT.s1 hM rfl rfl ?_
      refine xT.s1 hM rfl rfl ?_
      refine xT.s1 hM rfl rfl ?_
      refine xT.s2 hM rfl rfl (x2_get rfl (Or.inl rfl) (fr1 _ _ hq) f17) ?_
      refine xT.s1 hM rfl rfl ?_
      refine xT.iald hM rfl (fr1 _ _ hc) (by omega) (by omega) ?_
      refine xT.iast hM rfl w3 (by omega) (by omega) (fun t2 e2 u2 => ?_)
      rw [x_updI] at u2
      have fr2 : ∀ (k : Nat) (x : ab_E), h[k]? = some x → t2[k]? = some x := fun k x hk => (u2.2.1 k (by have := x_lt hk; omega)).trans (fr1 k x hk)
      replace w1 := (u2.2.1 _ (by omega)).trans w1
      replace w2 := (u2.2.1 _ (by omega)).trans w2
      replace w4 := (u2.2.1 _ (by omega)).trans w4
      replace w5 := (u2.2.1 _ (by omega)).trans w5
      replace w6 := (u2.2.1 _ (by omega)).trans w6
      replace w3 := u2.1
      refine xT.s1 hM rfl rfl ?_
      refine xT.s1 hM rfl rfl ?_
      refine xT.s1 hM rfl rfl ?_
      refine xT.s2 hM rfl rfl (x2_get rfl (Or.inl rfl) (fr2 _ _ hq) f18) ?_
      refine xT.s1 hM rfl rfl ?_
      refine xT.iald hM rfl (fr2 _ _ hd) (by omega) (by omega) ?_
      refine xT.iast hM rfl w4 (by omega) (by omega) (fun t3 e3 u3 => ?_)
      rw [x_updI] at u3
      have fr3 : ∀ (k : Nat) (x : ab_E), h[k]? = some x → t3[k]? = some x := fun k x hk => (u3.2.1 k (by have := x_lt hk; omega)).trans (fr2 k x hk)
      replace w1 := (u3.2.1 _ (by omega)).trans w1
      replace w2 := (u3.2.1 _ (by omega)).trans w2
      replace w3 := (u3.2.1 _ (by omega)).trans w3
      replace w5 := (u3.2.1 _ (by omega)).trans w5
      replace w6 := (u3.2.1 _ (by omega)).trans w6
      replace w4 := u3.1
      refine xT.s1 hM rfl rfl ?_
      refine xT.s1 hM rfl rfl ?_
      refine xT.s1 hM rfl rfl ?_
      refine xT.s2 hM rfl rfl (x2_get rfl (Or.inl rfl) (fr3 _ _ hq) f19) ?_
      refine xT.s1 hM rfl rfl ?_
      refine xT.iald hM rfl (fr3 _ _ he) (by omega) (by omega) ?_
      refine xT.iast hM rfl w5 (by omega) (by omega) (fun t4 e4 u4 => ?_)
      rw [x_updI] at u4
      have fr4 : ∀ (k : Nat) (x : ab_E), h[k]? = some x → t4[k]? = some x := fun k x hk => (u4.2.1 k (by have := x_lt hk; omega)).trans (fr3 k x hk)
      replace w1 := (u4.2.1 _ (by omega)).trans w1
      replace w2 := (u4.2.1 _ (by omega)).trans w2
      replace w3 := (u4.2.1 _ (by omega)).trans w3
      replace w4 := (u4.2.1 _ (by omega)).trans w4
      replace w6 := (u4.2.1 _ (by omega)).trans w6
      replace w5 := u4.1
      refine xT.s1 hM rfl rfl ?_
      refine xT.s1 hM rfl rfl ?_
      refine xT.s1 hM rfl rfl ?_
      refine xT.s2 hM rfl rfl (x2_get rfl (Or.inl rfl) (fr4 _ _ hq) f20) ?_
      refine xT.s1 hM rfl rfl ?_
      refine xT.aald hM rfl (fr4 _ _ hf) rfl (by omega) (by omega) ?_
      have xa5 := xn.ext fr4
      refine xT.aast hM rfl rfl rfl w6 rfl xa5 (by omega) (by omega) (fun t5 e5 u5 => ?_)
      have fr5 : ∀ (k : Nat) (x : ab_E), h[k]? = some x → t5[k]? = some x := fun k x hk => (u5.2.1 k (by have := x_lt hk; omega)).trans (fr4 k x hk)
      replace w1 := (u5.2.1 _ (by omega)).trans w1
      replace w2 := (u5.2.1 _ (by omega)).trans w2
      replace w3 := (u5.2.1 _ (by omega)).trans w3
      replace w4 := (u5.2.1 _ (by omega)).trans w4
      replace w5 := (u5.2.1 _ (by omega)).trans w5
      replace w6 := u5.1
      refine xT.s1 hM rfl rfl ?_
      rw [show nI i + Int32.ofInt 1 = nI (i + 1) from nI_add i 1]
      refine xT.s1 hM rfl rfl ?_
      refine ih (i + 1) t5 _ _ _ _ _ _ (by omega) (by omega) (fun j hj => ?_) (fun j hj => ?_) (fun j hj => ?_) (fun j hj => ?_) (fun j hj => ?_) (fun j hj => ?_) fr5 w1 w2 w3 w4 w5 w6 (by rw [u5.2.2.1, u4.2.2.1, u3.2.2.1, u2.2.2.1, u1.2.2.1, u0.2.2.1]; exact z1) (by rw [u5.2.2.2, u4.2.2.2, u3.2.2.2, u2.2.2.2, u1.2.2.2, u0.2.2.2]; exact z2)
      · by_cases hji : j = i
        · subst hji; exact x_upd1 _ _ _
        · exact (x_upd0 hji).trans (q1 j (by omega))
      · by_cases hji : j = i
        · subst hji; exact if_pos rfl
        · exact (if_neg hji).trans (q2 j (by omega))
      · by_cases hji : j = i
        · subst hji; exact if_pos rfl
        · exact (if_neg hji).trans (q3 j (by omega))
      · by_cases hji : j = i
        · subst hji; exact if_pos rfl
        · exact (if_neg hji).trans (q4 j (by omega))
      · by_cases hji : j = i
        · subst hji; exact if_pos rfl
        · exact (if_neg hji).trans (q5 j (by omega))
      · by_cases hji : j = i
        · subst hji; exact x_upd1 _ _ _
        · exact (x_upd0 hji).trans (q6 j (by omega))
theorem m_node (hD : m_D h q F nn cap ra rb rc rd re rf va nb kb pb cb ab) (hel : ∀ i, i < nn → x_el h 4 (va i) ∧ x_el h 3 (nb i)) (hbb : h[b]? = some (.inr (11, Gb))) (hnm : nm = .null ∨ ∃ n, j_str e h nm n) (rr : nn = cap → cap ≤ 16384 ∧ h.length + 6 ≤ e.2.2.2.1 ∧ ab_sz h + 12 * cap ≤ e.2.2.2.2.1) : xT e d 33 0 [(0, .ref q), (1, .int k), (2, .int p), (3, .int c), (4, .ref b), (5, nm), (6, .int ar)] [] h (fun o h' => ∃ v, o = .inl v ∧ v = some (.int (nI nn)) ∧ ∃ F' cap' ra' rb' rc' rd' re' rf' va' nb' kb' pb' cb' ab', m_D h' q F' (nn + 1) cap' ra' rb' rc' rd' re' rf' va' nb' kb' pb' cb' ab' ∧ (∀ i, i < nn → va' i = va i ∧ kb' i = kb i ∧ cb' i = cb i ∧ ab' i = ab i ∧ nb' i = nb i) ∧ va' nn = .ref b ∧ kb' nn = k ∧ cb' nn = c ∧ ab' nn = ar ∧ nb' nn = nm ∧ (∀ i, i < 14 → F'[i]? = F[i]?) ∧ (∀ (k : Nat) (x : ab_E), h[k]? = some x → k ≠ q → k ≠ ra → k ≠ rb → k ≠ rc → k ≠ rd → k ≠ re → k ≠ rf → h'[k]? = some x) ∧ ((cap' = cap ∧ ra' = ra ∧ rb' = rb ∧ rc' = rc ∧ rd' = rd ∧ re' = re ∧ rf' = rf ∧ h'.length = h.length ∧ ab_sz h' = ab_sz h) ∨ (nn = cap ∧ cap' = 2 * cap ∧ ra' = h.length ∧ rb' = h.length + 1 ∧ rc' = h.length + 2 ∧ rd' = h.length + 3 ∧ re' = h.length + 4 ∧ rf' = h.length + 5 ∧ h'.length = h.length + 6 ∧ ab_sz h' = ab_sz h + 12 * cap))) := by
  have hM : (x_mt e.1)[33]? = some xM33 := rfl
  obtain ⟨⟨hq, hl, f14⟩, ⟨f15, f16, f17, f18, f19, f20⟩, ⟨ha, hb, hc, hd, he, hf⟩, ⟨n1, n2, n3, n4, n5, n6⟩, ⟨c1, c2, c3⟩⟩ := id hD
  have hq0 := hq
  refine xT.s1 hM rfl rfl ?_
  refine xT.s2 hM rfl rfl (x2_get rfl (Or.inl rfl) hq f14) ?_
  refine xT.s1 hM rfl rfl ?_
  refine xT.s2 hM rfl rfl (x2_get rfl (Or.inl rfl) hq f16) ?_
  refine xT.s2 hM rfl rfl (x2_alen hb (by decide)) ?_
  refine xT.s1 hM rfl rfl ?_
  refine xT.br (fun hb0 => ?_) (fun hb0 => ?_)
  · have ec : nn = cap := (nI_eq (by omega) (by omega)).mp hb0
    obtain ⟨hcap, r1, r2⟩ := rr ec
    subst ec
    refine xT.s1 hM rfl rfl ?_
    refine xT.s1 hM rfl rfl ?_
    refine xT.s2 hM rfl rfl (x2_get rfl (Or.inl rfl) hq f14) ?_
    refine xT.s1 hM rfl rfl ?_
    rw [x_mul2]
    refine xT.s1 hM rfl rfl ?_
    refine xT.s1 hM rfl rfl ?_
    refine xT.newa hM rfl rfl rfl rfl (by omega) (by omega) (by omega) (fun k0 ek0 w0 => ?_)
    have l0 := w0.2.2.1
    have s0 : ab_sz k0 = ab_sz _ + 2 * nn := w0.2.2.2
    replace hq := w0.2.1 _ _ hq
    refine xT.s1 hM rfl rfl ?_
    refine xT.s1 hM rfl rfl ?_
    refine xT.newi hM rfl (by omega) (by omega) (by omega) (fun k1 ek1 w1 => ?_)
    have l1 := w1.2.2.1
    have s1 : ab_sz k1 = ab_sz _ + 2 * nn := w1.2.2.2
    replace hq := w1.2.1 _ _ hq
    refine xT.s1 hM rfl rfl ?_
    refine xT.s1 hM rfl rfl ?_
    refine xT.newi hM rfl (by omega) (by omega) (by omega) (fun k2 ek2 w2 => ?_)
    have l2 := w2.2.2.1
    have s2 : ab_sz k2 = ab_sz _ + 2 * nn := w2.2.2.2
    replace hq := w2.2.1 _ _ hq
    refine xT.s1 hM rfl rfl ?_
    refine xT.s1 hM rfl rfl ?_
    refine xT.newi hM rfl (by omega) (by omega) (by omega) (fun k3 ek3 w3 => ?_)
    have l3 := w3.2.2.1
    have s3 : ab_sz k3 = ab_sz _ + 2 * nn := w3.2.2.2
    replace hq := w3.2.1 _ _ hq
    refine xT.s1 hM rfl rfl ?_
    refine xT.s1 hM rfl rfl ?_
    refine xT.newi hM rfl (by omega) (by omega) (by omega) (fun k4 ek4 w4 => ?_)
    have l4 := w4.2.2.1
    have s4 : ab_sz k4 = ab_sz _ + 2 * nn := w4.2.2.2
    replace hq := w4.2.1 _ _ hq
    refine xT.s1 hM rfl rfl ?_
    refine xT.s1 hM rfl rfl ?_
    refine xT.newa hM rfl rfl rfl rfl (by omega) (by omega) (by omega) (fun k5 ek5 w5 => ?_)
    have l5 := w5.2.2.1
    have s5 : ab_sz k5 = ab_sz _ + 2 * nn := w5.2.2.2
    replace hq := w5.2.1 _ _ hq
    refine xT.s1 hM rfl rfl ?_
    refine xT.s1 hM rfl rfl ?_
    refine xT.s1 hM rfl rfl ?_
    have fr0 : ∀ (k : Nat) (x : ab_E), h[k]? = some x → k5[k]? = some x := fun k x hk => w5.2.1 _ _ (w4.2.1 _ _ (w3.2.1 _ _ (w2.2.1 _ _ (w1.2.1 _ _ (w0.2.1 _ _ hk)))))
    have b0 := (w5.2.1 _ _ (w4.2.1 _ _ (w3.2.1 _ _ (w2.2.1 _ _ (w1.2.1 _ _ w0.1)))))
    have b1 := (w5.2.1 _ _ (w4.2.1 _ _ (w3.2.1 _ _ (w2.2.1 _ _ w1.1))))
    have b2 := (w5.2.1 _ _ (w4.2.1 _ _ (w3.2.1 _ _ w2.1)))
    have b3 := (w5.2.1 _ _ (w4.2.1 _ _ w3.1))
    have b4 := (w5.2.1 _ _ w4.1)
    have b5 := w5.1
    rw [show k0.length = h.length + 1 from by omega] at b1
    rw [show k1.length = h.length + 2 from by omega] at b2
    rw [show k2.length = h.length + 3 from by omega] at b3
    rw [show k3.length = h.length + 4 from by omega] at b4
    rw [show k4.length = h.length + 5 from by omega] at b5
    rw [show k4.length = h.length + 5 from by omega, show k3.length = h.length + 4 from by omega, show k2.length = h.length + 3 from by omega, show k1.length = h.length + 2 from by omega, show k0.length = h.length + 1 from by omega]
    refine m_nodeL hD hel (fun h1 g1 g6 g2 g3 g4 g5 q1 q2 q3 q4 q5 q6 fr w1 w2 w3 w4 w5 w6 z1 z2 => ?_) (nn + 1) 0 k5 _ _ (fun _ => 0) (fun _ => 0) (fun _ => 0) (fun _ => 0) (by omega) (by omega) (fun i hi => absurd hi (Nat.not_lt_zero i)) (fun i hi => absurd hi (Nat.not_lt_zero i)) (fun i hi => absurd hi (Nat.not_lt_zero i)) (fun i hi => absurd hi (Nat.not_lt_zero i)) (fun i hi => absurd hi (Nat.not_lt_zero i)) (fun i hi => absurd hi (Nat.not_lt_zero i)) fr0 b0 b1 b2 b3 b4 b5 (by omega) (by omega)
    have hq := fr _ _ hq0
    have hql := x_lt hq0
    refine xT.s1 hM rfl rfl ?_
    refine xT.s1 hM rfl rfl ?_
    refine xT.put hM rfl rfl hq (Or.inl rfl) (by rw [hl]; decide) (rfl) (Or.inl rfl) (fun h_1 F_1 eF1 eh1 up1 fb1 fo1 fl1 => ?_)
    replace w1 := (up1.2.1 _ (by omega)).trans w1
    replace w2 := (up1.2.1 _ (by omega)).trans w2
    replace w3 := (up1.2.1 _ (by omega)).trans w3
    replace w4 := (up1.2.1 _ (by omega)).trans w4
    replace w5 := (up1.2.1 _ (by omega)).trans w5
    replace w6 := (up1.2.1 _ (by omega)).trans w6
    replace hq := up1.1
    replace hl := fl1.trans hl
    replace f14 := (fo1 14 (by decide)).trans f14
    have fm15 := fb1
    refine xT.s1 hM rfl rfl ?_
    refine xT.s1 hM rfl rfl ?_
    refine xT.put hM rfl rfl hq (Or.inl rfl) (by rw [hl]; decide) (rfl) (Or.inl rfl) (fun h_2 F_2 eF2 eh2 up2 fb2 fo2 fl2 => ?_)
    replace w1 := (up2.2.1 _ (by omega)).trans w1
    replace w2 := (up2.2.1 _ (by omega)).trans w2
    replace w3 := (up2.2.1 _ (by omega)).trans w3
    replace w4 := (up2.2.1 _ (by omega)).trans w4
    replace w5 := (up2.2.1 _ (by omega)).trans w5
    replace w6 := (up2.2.1 _ (by omega)).trans w6
    replace hq := up2.1
    replace hl := fl2.trans hl
    replace f14 := (fo2 14 (by decide)).trans f14
    replace fm15 := (fo2 15 (by decide)).trans fm15
    have fm16 := fb2
    refine xT.s1 hM rfl rfl ?_
    refine xT.s1 hM rfl rfl ?_
    refine xT.put hM rfl rfl hq (Or.inl rfl) (by rw [hl]; decide) (rfl) (Or.inl rfl) (fun h_3 F_3 eF3 eh3 up3 fb3 fo3 fl3 => ?_)
    replace w1 := (up3.2.1 _ (by omega)).trans w1
    replace w2 := (up3.2.1 _ (by omega)).trans w2
    replace w3 := (up3.2.1 _ (by omega)).trans w3
    replace w4 := (up3.2.1 _ (by omega)).trans w4
    replace w5 := (up3.2.1 _ (by omega)).trans w5
    replace w6 := (up3.2.1 _ (by omega)).trans w6
    replace hq := up3.1
    replace hl := fl3.trans hl
    replace f14 := (fo3 14 (by decide)).trans f14
    replace fm15 := (fo3 15 (by decide)).trans fm15
    replace fm16 := (fo3 16 (by decide)).trans fm16
    have fm17 := fb3
    refine xT.s1 hM rfl rfl ?_
    refine xT.s1 hM rfl rfl ?_
    refine xT.put hM rfl rfl hq (Or.inl rfl) (by rw [hl]; decide) (rfl) (Or.inl rfl) (fun h_4 F_4 eF4 eh4 up4 fb4 fo4 fl4 => ?_)
    replace w1 := (up4.2.1 _ (by omega)).trans w1
    replace w2 := (up4.2.1 _ (by omega)).trans w2
    replace w3 := (up4.2.1 _ (by omega)).trans w3
    replace w4 := (up4.2.1 _ (by omega)).trans w4
    replace w5 := (up4.2.1 _ (by omega)).trans w5
    replace w6 := (up4.2.1 _ (by omega)).trans w6
    replace hq := up4.1
    replace hl := fl4.trans hl
    replace f14 := (fo4 14 (by decide)).trans f14
    replace fm15 := (fo4 15 (by decide)).trans fm15
    replace fm16 := (fo4 16 (by decide)).trans fm16
    replace fm17 := (fo4 17 (by decide)).trans fm17
    have fm18 := fb4
    refine xT.s1 hM rfl rfl ?_
    refine xT.s1 hM rfl rfl ?_
    refine xT.put hM rfl rfl hq (Or.inl rfl) (by rw [hl]; decide) (rfl) (Or.inl rfl) (fun h_5 F_5 eF5 eh5 up5 fb5 fo5 fl5 => ?_)
    replace w1 := (up5.2.1 _ (by omega)).trans w1
    replace w2 := (up5.2.1 _ (by omega)).trans w2
    replace w3 := (up5.2.1 _ (by omega)).trans w3
    replace w4 := (up5.2.1 _ (by omega)).trans w4
    replace w5 := (up5.2.1 _ (by omega)).trans w5
    replace w6 := (up5.2.1 _ (by omega)).trans w6
    replace hq := up5.1
    replace hl := fl5.trans hl
    replace f14 := (fo5 14 (by decide)).trans f14
    replace fm15 := (fo5 15 (by decide)).trans fm15
    replace fm16 := (fo5 16 (by decide)).trans fm16
    replace fm17 := (fo5 17 (by decide)).trans fm17
    replace fm18 := (fo5 18 (by decide)).trans fm18
    have fm19 := fb5
    refine xT.s1 hM rfl rfl ?_
    refine xT.s1 hM rfl rfl ?_
    refine xT.put hM rfl rfl hq (Or.inl rfl) (by rw [hl]; decide) (rfl) (Or.inl rfl) (fun h_6 F_6 eF6 eh6 up6 fb6 fo6 fl6 => ?_)
    replace w1 := (up6.2.1 _ (by omega)).trans w1
    replace w2 := (up6.2.1 _ (by omega)).trans w2
    replace w3 := (up6.2.1 _ (by omega)).trans w3
    replace w4 := (up6.2.1 _ (by omega)).trans w4
    replace w5 := (up6.2.1 _ (by omega)).trans w5
    replace w6 := (up6.2.1 _ (by omega)).trans w6
    replace hq := up6.1
    replace hl := fl6.trans hl
    replace f14 := (fo6 14 (by decide)).trans f14
    replace fm15 := (fo6 15 (by decide)).trans fm15
    replace fm16 := (fo6 16 (by decide)).trans fm16
    replace fm17 := (fo6 17 (by decide)).trans fm17
    replace fm18 := (fo6 18 (by decide)).trans fm18
    replace fm19 := (fo6 19 (by decide)).trans fm19
    have fm20 := fb6
    have frx : ∀ (k : Nat) (x : ab_E), h[k]? = some x → k ≠ q → h_6[k]? = some x := fun k x hk hn => (up6.2.1 k hn).trans ((up5.2.1 k hn).trans ((up4.2.1 k hn).trans ((up3.2.1 k hn).trans ((up2.2.1 k hn).trans ((up1.2.1 k hn).trans (fr k x hk))))))
    have hD2 : m_D h_6 q F_6 nn (2 * nn) h.length (h.length + 1) (h.length + 2) (h.length + 3) (h.length + 4) (h.length + 5) g1 g6 g2 g3 g4 g5 := ⟨⟨hq, hl, f14⟩, ⟨fm15, fm16, fm17, fm18, fm19, fm20⟩, ⟨w1, w2, w3, w4, w5, w6⟩, ⟨by omega, by omega, by omega, by omega, by omega, by omega⟩, ⟨by omega, by omega, by omega⟩⟩
    have stx : ∀ v m, j_str e h v m → j_str e h_6 v m := fun v m z => z.by (fun k F hk => frx k _ hk (x_neq hk hq0 (by simp))) (fun k n f hk => frx k _ hk (x_neq hk hq0 (by simp)))
    have hnm2 : nm = .null ∨ ∃ n, j_str e h_6 nm n := by
      rcases hnm with z | ⟨m, z⟩
      · exact Or.inl z
      · exact Or.inr ⟨m, stx _ _ z⟩
    refine xT.weak (L := [(0, .ref q), (1, .int k), (2, .int p), (3, .int c), (4, .ref b), (5, nm), (6, .int ar)]) ⟨by simp, by simp⟩ ((m_nodeT hD2 (by omega) (frx _ _ hbb (x_neq hbb hq0 (by simp))) hnm2).mono (fun o h' ho => ?_))
    obtain ⟨v, y1, y2, F', va', nb', kb', pb', cb', ab', y3, y4, y5, y6, y7, y8, y9, y10, y11, y12, y13⟩ := ho
    refine ⟨v, y1, y2, F', _, _, _, _, _, _, _, va', nb', kb', pb', cb', ab', y3, fun i hi => ⟨(y4 i hi).1.trans (q1 i hi), (y4 i hi).2.1.trans (q2 i hi), (y4 i hi).2.2.1.trans (q4 i hi), (y4 i hi).2.2.2.1.trans (q5 i hi), (y4 i hi).2.2.2.2.trans (q6 i hi)⟩, y5, y6, y7, y8, y9, fun i hi => ?_, fun k x hk n0 _ _ _ _ _ _ => y11 k x (frx k x hk n0) n0 (by have := x_lt hk; omega) (by have := x_lt hk; omega) (by have := x_lt hk; omega) (by have := x_lt hk; omega) (by have := x_lt hk; omega) (by have := x_lt hk; omega), Or.inr ⟨rfl, rfl, rfl, rfl, rfl, rfl, rfl, rfl, ?_, ?_⟩⟩
    · rw [y10 i hi, fo6 i (by omega), fo5 i (by omega), fo4 i (by omega), fo3 i (by omega), fo2 i (by omega), fo1 i (by omega)]
    · rw [y12, up6.2.2.1, up5.2.2.1, up4.2.2.1, up3.2.2.1, up2.2.2.1, up1.2.2.1, z1]
    · rw [y13, up6.2.2.2, up5.2.2.2, up4.2.2.2, up3.2.2.2, up2.2.2.2, up1.2.2.2, z2]
  · have hlt : nn < cap := Nat.lt_of_le_of_ne c1 (fun z => hb0 (by rw [z]))
    refine (m_nodeT hD hlt hbb hnm).mono (fun o h' ho => ?_)
    obtain ⟨v, y1, y2, F', va', nb', kb', pb', cb', ab', y3, y4, y5, y6, y7, y8, y9, y10, y11, y12, y13⟩ := ho
    exact ⟨v, y1, y2, F', _, _, _, _, _, _, _, va', nb', kb', pb', cb', ab', y3, y4, y5, y6, y7, y8, y9, y10, y11, Or.inl ⟨rfl, rfl, rfl, rfl, rfl, rfl, rfl, y12, y13⟩⟩
end XND
