/-! the JDK: ArrayList's clear -/
section XLK
variable {e : xE} {d qa qe cap sz : Nat} {h h0 : ab_H} {Fa : List Value} {ef : Nat → Value}
theorem c_clLoop (la : Fa.length = 3) (f1 : Fa[1]? = some (.int (nI 0))) (f2 : ∃ z, Fa[2]? = some (.int z)) (f0 : Fa[0]? = some (.ref qe)) (h10 : 10 ≤ cap) (hc : cap ≤ 20000) (hs : sz ≤ cap) : ∀ (m i : Nat) (ef : Nat → Value) (h : ab_H), sz - i < m → i ≤ sz → h[qe]? = some (.inl (5, cap, ef)) → h[qa]? = some (.inr (4, Fa)) → (∀ (k : Nat) (x : ab_E), h0[k]? = some x → k ≠ qa → (∀ n f, x ≠ .inl (5, n, f)) → h[k]? = some x) → h.length = h0.length → ab_sz h = ab_sz h0 → (∀ (k : Nat) (G : List Value), h[k]? = some (.inr (10, G)) → h0[k]? = some (.inr (10, G))) → xT e d 54 27 [(3, .int (nI i)), (2, .int (nI sz)), (1, .ref qe), (0, .ref qa)] [] h (fun o h' => ∃ v, o = .inl v ∧ v = none ∧ ∃ Fa' ef', c_L h' qa Fa' qe cap 0 ef' ∧ (∀ (k : Nat) (x : ab_E), h0[k]? = some x → k ≠ qa → (∀ n f, x ≠ .inl (5, n, f)) → h'[k]? = some x) ∧ h'.length = h0.length ∧ ab_sz h' = ab_sz h0 ∧ (∀ (k : Nat) (G : List Value), h'[k]? = some (.inr (10, G)) → h0[k]? = some (.inr (10, G)))) := by
  have hM : (x_mt e.1)[54]? = some xM54 := rfl
  intro m
  induction m with
  | zero => intro i ef h m1; omega
  | succ m ih =>
    intro i ef h m1 m2 he ha fr ln sn rv
    refine xT.s1 hM rfl rfl ?_
    refine xT.s1 hM rfl rfl ?_
    refine xT.s1 hM rfl rfl ?_
    refine xT.br (fun b0 => ?_) (fun b0 => ?_)
    · exact xT.ret hM rfl rfl rfl rfl (⟨_, rfl, rfl, Fa, ef, ⟨ha, la, f1, f2, Or.inr ⟨f0, he, h10⟩, Nat.zero_le _, hc, fun i hi => absurd hi (Nat.not_lt_zero i)⟩, fr, ln, sn, rv⟩)
    · have hi : i < sz := Nat.lt_of_not_le (fun z => b0 (nI_le z (by omega)))
      refine xT.s1 hM rfl rfl ?_
      refine xT.s1 hM rfl rfl ?_
      refine xT.s1 hM rfl rfl ?_
      refine xT.aast hM rfl rfl rfl he rfl (Or.inl rfl) (by omega) (by omega) (fun s1 e1 u1 => ?_)
      refine xT.s1 hM rfl rfl ?_
      rw [show nI i + Int32.ofInt 1 = nI (i + 1) from nI_add i 1]
      refine xT.s1 hM rfl rfl ?_
      exact xT.weak (L' := [(3, _), (2, _), (1, _), (0, _)]) ⟨by simp, by simp⟩ (ih (i + 1) _ s1 (by omega) (by omega) u1.1 ((u1.2.1 _ (x_neq ha he (by simp))).trans ha) (fun k x hk n1 n2 => (u1.2.1 k (fun z => by subst z; have := fr k x hk n1 n2; rw [he] at this; exact n2 _ _ (Option.some.inj this).symm)).trans (fr k x hk n1 n2)) (u1.2.2.1.trans ln) (u1.2.2.2.trans sn) (fun k G hk => rv k G (x_rev_up u1 (by simp) hk)))
theorem c_clear (hL : c_L h qa Fa qe cap sz ef) : xT e d 54 0 [(0, .ref qa)] [] h (fun o h' => ∃ v, o = .inl v ∧ v = none ∧ ∃ Fa' ef', c_L h' qa Fa' qe cap 0 ef' ∧ (∀ (k : Nat) (x : ab_E), h[k]? = some x → k ≠ qa → (∀ n f, x ≠ .inl (5, n, f)) → h'[k]? = some x) ∧ h'.length = h.length ∧ ab_sz h' = ab_sz h ∧ (∀ (k : Nat) (G : List Value), h'[k]? = some (.inr (10, G)) → h[k]? = some (.inr (10, G)))) := by
  have hM : (x_mt e.1)[54]? = some xM54 := rfl
  obtain ⟨ha, la, f1, ⟨z2, f2⟩, hd, hs, hc, hN⟩ := id hL
  have ha0 := ha
  refine xT.s1 hM rfl rfl ?_
  refine xT.s1 hM rfl rfl ?_
  refine xT.s2 hM rfl rfl (x2_get rfl (Or.inl rfl) ha f2) ?_
  refine xT.s1 hM rfl rfl ?_
  refine xT.s1 hM rfl rfl ?_
  refine xT.put hM rfl rfl ha (Or.inl rfl) (by rw [la]; decide) (rfl) (Or.inl rfl) (fun h_1 F_1 eF1 eh1 up1 fb1 fo1 fl1 => ?_)
  replace ha := up1.1
  replace la := fl1.trans la
  replace f1 := (fo1 1 (by decide)).trans f1
  replace f2 := fb1
  rcases hd with ⟨f0, rfl, rfl⟩ | ⟨f0, he, h10⟩
  · replace f0 := (fo1 0 (by decide)).trans f0
    refine xT.s1 hM rfl rfl ?_
    refine xT.s2 hM rfl rfl (x2_get rfl (Or.inl rfl) ha f0) ?_
    refine xT.s1 hM rfl rfl ?_
    refine xT.s1 hM rfl rfl ?_
    refine xT.s2 hM rfl rfl (x2_get rfl (Or.inl rfl) ha f1) ?_
    refine xT.s1 hM rfl rfl ?_
    refine xT.s1 hM rfl rfl ?_
    refine xT.s1 hM rfl rfl ?_
    refine xT.s1 hM rfl rfl ?_
    refine xT.put hM rfl rfl ha (Or.inl rfl) (by rw [la]; decide) (rfl) (Or.inl rfl) (fun h_2 F_2 eF2 eh2 up2 fb2 fo2 fl2 => ?_)
    replace ha := up2.1
    replace la := fl2.trans la
    replace f2 := (fo2 2 (by decide)).trans f2
    replace f0 := (fo2 0 (by decide)).trans f0
    replace f1 := fb2
    refine xT.s1 hM rfl rfl ?_
    refine xT.s1 hM rfl rfl ?_
    refine xT.s1 hM rfl rfl ?_
    refine xT.s1 hM rfl rfl ?_
    refine xT.brT (by decide) ?_
    exact xT.ret hM rfl rfl rfl rfl (⟨_, rfl, rfl, _, ef, ⟨ha, la, f1, ⟨_, f2⟩, Or.inl ⟨f0, rfl, rfl⟩, Nat.le_refl _, by omega, fun i hi => absurd hi (Nat.not_lt_zero i)⟩, fun k x hk n1 _ => (up2.2.1 k n1).trans ((up1.2.1 k n1).trans hk), up2.2.2.1.trans up1.2.2.1, up2.2.2.2.trans up1.2.2.2, fun k G hk => x_rev_up up1 (by simp) (x_rev_up up2 (by simp) hk)⟩)
  · replace f0 := (fo1 0 (by decide)).trans f0
    replace he := (up1.2.1 _ (x_neq he ha0 (by simp))).trans he
    refine xT.s1 hM rfl rfl ?_
    refine xT.s2 hM rfl rfl (x2_get rfl (Or.inl rfl) ha f0) ?_
    refine xT.s1 hM rfl rfl ?_
    refine xT.s1 hM rfl rfl ?_
    refine xT.s2 hM rfl rfl (x2_get rfl (Or.inl rfl) ha f1) ?_
    refine xT.s1 hM rfl rfl ?_
    refine xT.s1 hM rfl rfl ?_
    refine xT.s1 hM rfl rfl ?_
    refine xT.s1 hM rfl rfl ?_
    refine xT.put hM rfl rfl ha (Or.inl rfl) (by rw [la]; decide) (rfl) (Or.inl rfl) (fun h_2 F_2 eF2 eh2 up2 fb2 fo2 fl2 => ?_)
    replace he := (up2.2.1 _ (x_neq he ha (by simp))).trans he
    replace ha := up2.1
    replace la := fl2.trans la
    replace f2 := (fo2 2 (by decide)).trans f2
    replace f0 := (fo2 0 (by decide)).trans f0
    replace f1 := fb2
    refine xT.s1 hM rfl rfl ?_
    exact c_clLoop la f1 ⟨_, f2⟩ f0 h10 hc hs (sz + 1) 0 ef _ (by omega) (by omega) he ha (fun k x hk n1 _ => (up2.2.1 k n1).trans ((up1.2.1 k n1).trans hk)) (up2.2.2.1.trans up1.2.2.1) (up2.2.2.2.trans up1.2.2.2) (fun k G hk => x_rev_up up1 (by simp) (x_rev_up up2 (by simp) hk))
end XLK
