/-! the reference: Value.add -/
section XVC
variable {e : xE} {d a qp qn ql c n b : Nat} {h : ab_H} {G Fb : List Value} {pf nf : Nat → Value} {lf : Nat → Int32} {nm : Value} {y : Int32}
theorem m_addLoop {Q : ab_O → ab_H → Prop} (hV : m_V e h a G qp qn ql c c pf nf lf) (K : ∀ (h1 : ab_H) (g1 g2 : Nat → Value) (g3 : Nat → Int32), (∀ i, i < c → g1 i = pf i) → (∀ i, i < c → g2 i = nf i) → (∀ (k : Nat) (x : ab_E), h[k]? = some x → h1[k]? = some x) → h1[h.length]? = some (.inl (4, 2 * c, g1)) → h1[h.length + 1]? = some (.inl (3, 2 * c, g2)) → h1[h.length + 2]? = some (.inl (1, 2 * c, fun j => .int (g3 j))) → h1.length = h.length + 3 → ab_sz h1 = ab_sz h + 6 * c → xT e d 48 98 [(7, .int (nI c)), (6, .ref (h.length + 2)), (5, .ref (h.length + 1)), (4, .ref h.length), (0, .ref a), (1, nm), (2, .int y), (3, .ref b)] [] h1 Q) : ∀ (m k : Nat) (h1 : ab_H) (g1 g2 : Nat → Value) (g3 : Nat → Int32), c - k < m → k ≤ c → (∀ i, i < k → g1 i = pf i) → (∀ i, i < k → g2 i = nf i) → (∀ (k : Nat) (x : ab_E), h[k]? = some x → h1[k]? = some x) → h1[h.length]? = some (.inl (4, 2 * c, g1)) → h1[h.length + 1]? = some (.inl (3, 2 * c, g2)) → h1[h.length + 2]? = some (.inl (1, 2 * c, fun j => .int (g3 j))) → h1.length = h.length + 3 → ab_sz h1 = ab_sz h + 6 * c → xT e d 48 47 [(7, .int (nI k)), (6, .ref (h.length + 2)), (5, .ref (h.length + 1)), (4, .ref h.length), (0, .ref a), (1, nm), (2, .int y), (3, .ref b)] [] h1 Q := by
  have hM : (x_mt e.1)[48]? = some xM48 := rfl
  obtain ⟨ha, la, ⟨g5, g6, g7, g8⟩, ⟨hp, hn, hl⟩, ⟨c1, c2⟩, ch, cn⟩ := id hV
  intro m
  induction m with
  | zero => intro k h1 g1 g2 g3 m1; omega
  | succ m ih =>
    intro k h1 g1 g2 g3 m1 m2 e1 e2 fr w1 w2 w3 z1 z2
    refine xT.s1 hM rfl rfl ?_
    refine xT.s1 hM rfl rfl ?_
    refine xT.s2 hM rfl rfl (x2_get rfl (Or.inl rfl) (fr _ _ ha) g8) ?_
    refine xT.s1 hM rfl rfl ?_
    refine xT.br (fun hb => ?_) (fun hb => ?_)
    · have ek : k = c := Nat.le_antisymm m2 ((nI_leI (by omega) (by omega)).mp hb)
      subst ek
      exact K h1 g1 g2 g3 e1 e2 fr w1 w2 w3 z1 z2
    · have hk : k < c := Nat.lt_of_not_le (fun z => hb (nI_le z (by omega)))
      refine xT.s1 hM rfl rfl ?_
      refine xT.s1 hM rfl rfl ?_
      refine xT.s1 hM rfl rfl ?_
      refine xT.s2 hM rfl rfl (x2_get rfl (Or.inl rfl) (fr _ _ ha) g5) ?_
      refine xT.s1 hM rfl rfl ?_
      refine xT.aald hM rfl (fr _ _ hp) rfl (by omega) (by omega) ?_
      obtain ⟨bk, Fk, x1, x2⟩ := ch k hk
      refine xT.aast hM rfl rfl rfl w1 rfl (Or.inr (Or.inl ⟨bk, 11, Fk, x1, fr _ _ x2, by decide⟩)) (by omega) (by omega) (fun h2 q2 u2 => ?_)
      have fr2 : ∀ (k : Nat) (x : ab_E), h[k]? = some x → h2[k]? = some x := fun k x hk => (u2.2.1 k (by have := x_lt hk; omega)).trans (fr k x hk)
      replace w2 := (u2.2.1 _ (by omega)).trans w2
      replace w3 := (u2.2.1 _ (by omega)).trans w3
      have w1b := u2.1
      refine xT.s1 hM rfl rfl ?_
      refine xT.s1 hM rfl rfl ?_
      refine xT.s1 hM rfl rfl ?_
      refine xT.s2 hM rfl rfl (x2_get rfl (Or.inl rfl) (fr2 _ _ ha) g6) ?_
      refine xT.s1 hM rfl rfl ?_
      refine xT.aald hM rfl (fr2 _ _ hn) rfl (by omega) (by omega) ?_
      have xs : nf k = .null ∨ ∃ m, j_str e h2 (nf k) m := by
        rcases cn k hk with z | ⟨m, z⟩
        · exact Or.inl z
        · exact Or.inr ⟨m, z.ext fr2⟩
      refine xT.aast hM rfl rfl rfl w2 rfl (x_el.str xs) (by omega) (by omega) (fun h3 q3 u3 => ?_)
      have fr3 : ∀ (k : Nat) (x : ab_E), h[k]? = some x → h3[k]? = some x := fun k x hk => (u3.2.1 k (by have := x_lt hk; omega)).trans (fr2 k x hk)
      replace w1b := (u3.2.1 _ (by omega)).trans w1b
      replace w3 := (u3.2.1 _ (by omega)).trans w3
      have w2b := u3.1
      refine xT.s1 hM rfl rfl ?_
      refine xT.s1 hM rfl rfl ?_
      refine xT.s1 hM rfl rfl ?_
      refine xT.s2 hM rfl rfl (x2_get rfl (Or.inl rfl) (fr3 _ _ ha) g7) ?_
      refine xT.s1 hM rfl rfl ?_
      refine xT.iald hM rfl (fr3 _ _ hl) (by omega) (by omega) ?_
      refine xT.iast hM rfl w3 (by omega) (by omega) (fun h4 q4 u4 => ?_)
      have fr4 : ∀ (k : Nat) (x : ab_E), h[k]? = some x → h4[k]? = some x := fun k x hk => (u4.2.1 k (by have := x_lt hk; omega)).trans (fr3 k x hk)
      replace w1b := (u4.2.1 _ (by omega)).trans w1b
      replace w2b := (u4.2.1 _ (by omega)).trans w2b
      have w3b := u4.1
      rw [x_updI] at w3b
      refine xT.s1 hM rfl rfl ?_
      rw [show nI k + Int32.ofInt 1 = nI (k + 1) from nI_add k 1]
      refine xT.s1 hM rfl rfl ?_
      refine ih (k + 1) h4 _ _ _ (by omega) (by omega) (fun i hi => ?_) (fun i hi => ?_) fr4 w1b w2b w3b (by rw [u4.2.2.1, u3.2.2.1, u2.2.2.1]; exact z1) (by rw [u4.2.2.2, u3.2.2.2, u2.2.2.2]; exact z2)
      · by_cases hik : i = k
        · subst hik; exact x_upd1 _ _ _
        · exact (x_upd0 hik).trans (e1 i (by omega))
      · by_cases hik : i = k
        · subst hik; exact x_upd1 _ _ _
        · exact (x_upd0 hik).trans (e2 i (by omega))
theorem m_vadd (hV : m_V e h a G qp qn ql c n pf nf lf) (hb : h[b]? = some (.inr (11, Fb))) (hnm : nm = .null ∨ ∃ n, j_str e h nm n) (hn9 : n ≤ 9000) (hn0 : 0 < n) (r1 : h.length + 3 ≤ e.2.2.2.1) (r2 : ab_sz h + 6 * n ≤ e.2.2.2.2.1) : xT e d 48 0 [(0, .ref a), (1, nm), (2, .int y), (3, .ref b)] [] h (fun o h' => ∃ v, o = .inl v ∧ v = none ∧ ∃ G' qp' qn' ql' n' pf' nf' lf', m_V e h' a G' qp' qn' ql' (c + 1) n' pf' nf' lf' ∧ (∀ i, i < c → pf' i = pf i ∧ nf' i = nf i) ∧ pf' c = .ref b ∧ nf' c = nm ∧ (∀ i, i < 5 → G'[i]? = G[i]?) ∧ (∀ (k : Nat) (x : ab_E), h[k]? = some x → k ≠ a → k ≠ qp → k ≠ qn → k ≠ ql → h'[k]? = some x) ∧ ((n' = n ∧ qp' = qp ∧ qn' = qn ∧ ql' = ql ∧ h'.length = h.length ∧ ab_sz h' = ab_sz h) ∨ (c = n ∧ n' = 2 * n ∧ qp' = h.length ∧ qn' = h.length + 1 ∧ ql' = h.length + 2 ∧ h'.length = h.length + 3 ∧ ab_sz h' = ab_sz h + 6 * n))) := by
  have hM : (x_mt e.1)[48]? = some xM48 := rfl
  obtain ⟨ha, la, ⟨g5, g6, g7, g8⟩, ⟨hp, hn, hl⟩, ⟨c1, c2⟩, ch, cn⟩ := id hV
  have ha0 := ha
  refine xT.s1 hM rfl rfl ?_
  refine xT.s2 hM rfl rfl (x2_get rfl (Or.inl rfl) ha g8) ?_
  refine xT.s1 hM rfl rfl ?_
  refine xT.s2 hM rfl rfl (x2_get rfl (Or.inl rfl) ha g5) ?_
  refine xT.s2 hM rfl rfl (x2_alen hp (by decide)) ?_
  refine xT.s1 hM rfl rfl ?_
  refine xT.br (fun hb0 => ?_) (fun hb0 => ?_)
  · have ec : c = n := (nI_eq (by omega) (by omega)).mp hb0
    subst ec
    refine xT.s1 hM rfl rfl ?_
    refine xT.s1 hM rfl rfl ?_
    refine xT.s2 hM rfl rfl (x2_get rfl (Or.inl rfl) ha g8) ?_
    refine xT.s1 hM rfl rfl ?_
    rw [x_mul2]
    refine xT.newa hM rfl rfl rfl rfl (by omega) (by omega) (by omega) (fun k0 ek0 w0 => ?_)
    have l0 := w0.2.2.1
    have s0 : ab_sz k0 = ab_sz _ + 2 * c := w0.2.2.2
    replace ha := w0.2.1 _ _ ha
    refine xT.s1 hM rfl rfl ?_
    refine xT.s1 hM rfl rfl ?_
    refine xT.s1 hM rfl rfl ?_
    refine xT.s2 hM rfl rfl (x2_get rfl (Or.inl rfl) ha g8) ?_
    refine xT.s1 hM rfl rfl ?_
    rw [x_mul2]
    refine xT.newa hM rfl rfl rfl rfl (by omega) (by omega) (by omega) (fun k1 ek1 w1 => ?_)
    have l1 := w1.2.2.1
    have s1 : ab_sz k1 = ab_sz _ + 2 * c := w1.2.2.2
    replace ha := w1.2.1 _ _ ha
    refine xT.s1 hM rfl rfl ?_
    refine xT.s1 hM rfl rfl ?_
    refine xT.s1 hM rfl rfl ?_
    refine xT.s2 hM rfl rfl (x2_get rfl (Or.inl rfl) ha g8) ?_
    refine xT.s1 hM rfl rfl ?_
    rw [x_mul2]
    refine xT.newi hM rfl (by omega) (by omega) (by omega) (fun k2 ek2 w2 => ?_)
    have l2 := w2.2.2.1
    have s2 : ab_sz k2 = ab_sz _ + 2 * c := w2.2.2.2
    replace ha := w2.2.1 _ _ ha
    refine xT.s1 hM rfl rfl ?_
    refine xT.s1 hM rfl rfl ?_
    refine xT.s1 hM rfl rfl ?_
    have fr0 : ∀ (k : Nat) (x : ab_E), h[k]? = some x → k2[k]? = some x := fun k x hk => w2.2.1 _ _ (w1.2.1 _ _ (w0.2.1 _ _ hk))
    have b1 := w2.2.1 _ _ (w1.2.1 _ _ w0.1)
    have b2 := w2.2.1 _ _ w1.1
    have b3 := w2.1
    rw [l0] at b2
    rw [l1, l0] at b3
    rw [show k1.length = h.length + 1 + 1 from by omega, show k0.length = h.length + 1 from by omega]
    refine m_addLoop hV (fun h1 g1 g2 g3 e1 e2 fr w1 w2 w3 z1 z2 => ?_) (c + 1) 0 k2 _ _ (fun _ => 0) (by omega) (by omega) (fun i hi => absurd hi (Nat.not_lt_zero i)) (fun i hi => absurd hi (Nat.not_lt_zero i)) fr0 b1 b2 b3 (by omega) (by omega)
    have ha := fr _ _ ha0
    have hal := x_lt ha0
    refine xT.s1 hM rfl rfl ?_
    refine xT.s1 hM rfl rfl ?_
    refine xT.put hM rfl rfl ha (Or.inl rfl) (by rw [la]; decide) (rfl) (Or.inl rfl) (fun h_1 F_1 eF1 eh1 up1 fb1 fo1 fl1 => ?_)
    replace w1 := (up1.2.1 _ (by omega)).trans w1
    replace w2 := (up1.2.1 _ (by omega)).trans w2
    replace w3 := (up1.2.1 _ (by omega)).trans w3
    replace ha := up1.1
    replace la := fl1.trans la
    replace g6 := (fo1 6 (by decide)).trans g6
    replace g7 := (fo1 7 (by decide)).trans g7
    replace g8 := (fo1 8 (by decide)).trans g8
    replace g5 := fb1
    refine xT.s1 hM rfl rfl ?_
    refine xT.s1 hM rfl rfl ?_
    refine xT.put hM rfl rfl ha (Or.inl rfl) (by rw [la]; decide) (rfl) (Or.inl rfl) (fun h_2 F_2 eF2 eh2 up2 fb2 fo2 fl2 => ?_)
    replace w1 := (up2.2.1 _ (by omega)).trans w1
    replace w2 := (up2.2.1 _ (by omega)).trans w2
    replace w3 := (up2.2.1 _ (by omega)).trans w3
    replace ha := up2.1
    replace la := fl2.trans la
    replace g5 := (fo2 5 (by decide)).trans g5
    replace g7 := (fo2 7 (by decide)).trans g7
    replace g8 := (fo2 8 (by decide)).trans g8
    replace g6 := fb2
    refine xT.s1 hM rfl rfl ?_
    refine xT.s1 hM rfl rfl ?_
    refine xT.put hM rfl rfl ha (Or.inl rfl) (by rw [la]; decide) (rfl) (Or.inl rfl) (fun h_3 F_3 eF3 eh3 up3 fb3 fo3 fl3 => ?_)
    replace w1 := (up3.2.1 _ (by omega)).trans w1
    replace w2 := (up3.2.1 _ (by omega)).trans w2
    replace w3 := (up3.2.1 _ (by omega)).trans w3
    replace ha := up3.1
    replace la := fl3.trans la
    replace g5 := (fo3 5 (by decide)).trans g5
    replace g6 := (fo3 6 (by decide)).trans g6
    replace g8 := (fo3 8 (by decide)).trans g8
    replace g7 := fb3
    have frx : ∀ (k : Nat) (x : ab_E), h[k]? = some x → k ≠ a → h_3[k]? = some x := fun k x hk hn => (up3.2.1 k hn).trans ((up2.2.1 k hn).trans ((up1.2.1 k hn).trans (fr k x hk)))
    have stx : ∀ v m, j_str e h v m → j_str e h_3 v m := fun v m z => z.by (fun k F hk => frx k _ hk (x_neq hk ha0 (by simp))) (fun k n f hk => frx k _ hk (x_neq hk ha0 (by simp)))
    have hV2 : m_V e h_3 a F_3 h.length (h.length + 1) (h.length + 2) c (2 * c) g1 g2 g3 := ⟨ha, la, ⟨g5, g6, g7, g8⟩, ⟨w1, w2, w3⟩, ⟨by omega, by omega⟩, fun i hi => by
      obtain ⟨bi, Fi, y1, y2⟩ := ch i hi
      rw [e1 i hi]
      by_cases hba : bi = a
      · subst hba; exact ⟨bi, _, y1, ha⟩
      · exact ⟨bi, Fi, y1, frx _ _ y2 hba⟩, fun i hi => by
      rw [e2 i hi]
      rcases cn i hi with z | ⟨m, z⟩
      · exact Or.inl z
      · exact Or.inr ⟨m, stx _ _ z⟩⟩
    obtain ⟨Fb2, hb2⟩ : ∃ F, h_3[b]? = some (.inr (11, F)) := by
      by_cases hba : b = a
      · subst hba; exact ⟨_, ha⟩
      · exact ⟨Fb, frx _ _ hb hba⟩
    have hnm2 : nm = .null ∨ ∃ n, j_str e h_3 nm n := by
      rcases hnm with z | ⟨m, z⟩
      · exact Or.inl z
      · exact Or.inr ⟨m, stx _ _ z⟩
    refine xT.weak (L := [(0, .ref a), (1, nm), (2, .int y), (3, .ref b)]) ⟨by simp, by simp⟩ ((m_addT hV2 (by omega) hb2 hnm2).mono (fun o h' ho => ?_))
    obtain ⟨v, q1, q2, G', pf', nf', lf', q3, q4, q5, q6, q7, q8, q9, q10⟩ := ho
    refine ⟨v, q1, q2, G', _, _, _, _, pf', nf', lf', q3, fun i hi => ⟨(q4 i hi).1.trans (e1 i hi), (q4 i hi).2.trans (e2 i hi)⟩, q5, q6, fun i hi => ?_, fun k x hk n1 n2 n3 n4 => q8 k x (frx k x hk n1) n1 (by have := x_lt hk; omega) (by have := x_lt hk; omega) (by have := x_lt hk; omega), Or.inr ⟨rfl, rfl, rfl, rfl, rfl, ?_, ?_⟩⟩
    · rw [q7 i hi, fo3 i (by omega), fo2 i (by omega), fo1 i (by omega)]
    · rw [q9, up3.2.2.1, up2.2.2.1, up1.2.2.1, z1]
    · rw [q10, up3.2.2.2, up2.2.2.2, up1.2.2.2, z2]
  · have hlt : c < n := Nat.lt_of_le_of_ne c1 (fun z => hb0 (by rw [z]))
    refine (m_addT hV hlt hb hnm).mono (fun o h' ho => ?_)
    obtain ⟨v, q1, q2, G', pf', nf', lf', q3, q4, q5, q6, q7, q8, q9, q10⟩ := ho
    exact ⟨v, q1, q2, G', _, _, _, _, pf', nf', lf', q3, q4, q5, q6, q7, q8, Or.inl ⟨rfl, rfl, rfl, rfl, q9, q10⟩⟩
end XVC
