/-! the reference: Value's constructor and add -/
section XVA
variable {e : xE} {d mi pc len tg j x b n k m t0 ci : Nat} {L : ab_L} {S : List Value} {h : ab_H} {Q : ab_O → ab_H → Prop} {M : ab_M} {fl v : Value} {F : List Value} {f : Nat → Value}
theorem xT.newa (hM : (x_mt e.1)[mi]? = some M) (hf : ab_fe M pc = some (.anewarray x, len, tg)) (hp : my_p M x = some (6, t0, b, fl)) (h7 : ab_th M pc = none) (h8 : ab_th0 M pc = none) (hm : m ≤ 65536) (r1 : h.length + 1 ≤ e.2.2.2.1) (r2 : ab_sz h + m ≤ e.2.2.2.2.1)
    (t : ∀ h1, h1 = h ++ [(.inl (t0, m, fun _ => .null) : ab_E)] → x_nw h h1 (.inl (t0, m, fun _ => .null)) → xT e d mi (pc + 3) L (.ref h.length :: S) h1 Q) : xT e d mi pc L (.int (nI m) :: S) h Q := by
  refine xT.s4 hM hf rfl rfl rfl rfl rfl rfl h7 h8 ?_ (t _ rfl (x_nw_push h _))
  simp only [ab_s4, hp]
  rw [if_pos ⟨nI_pos (by omega), by rw [x_clampN (by omega)]; exact hm, r1, by rw [x_clampN (by omega)]; exact r2⟩, x_clampN (by omega)]
/-- what a row of this kind may take -/
def x_el (h : ab_H) (t0 : Nat) (v : Value) : Prop := v = .null ∨ (∃ a ci F, v = .ref a ∧ h[a]? = some (.inr (ci, F)) ∧ (t0, ci) ∈ x_sb) ∨ (∃ w ci F, v = .float w ∧ x_oo w.toNat = some (ci, F) ∧ (t0, ci) ∈ x_sb)
theorem xT.aast (hM : (x_mt e.1)[mi]? = some M) (hf : ab_fe M pc = some (.aastore, len, tg)) (h7 : ab_th M pc = none) (h8 : ab_th0 M pc = none) (hj : h[j]? = some (.inl (t0, n, f))) (ht : (x_aty[t0]?).map ab_isR = some true) (hv : x_el h t0 v) (hk : k < n) (hn : n < 2 ^ 31)
    (t : ∀ h1, h1 = h.set j (.inl (t0, n, updV f k v)) → x_up h j h1 (.inl (t0, n, updV f k v)) → xT e d mi (pc + 1) L S h1 Q) : xT e d mi pc L (v :: .int (nI k) :: .ref j :: S) h Q := by
  rcases hv with rfl | ⟨a, ci, F, rfl, ha, hs⟩ | ⟨w, ci, F, rfl, hw, hs⟩
  · refine xT.s4 hM hf rfl rfl rfl rfl rfl rfl h7 h8 ?_ (t _ rfl (x_up_set hj rfl))
    simp only [ab_s4, hj]
    rw [if_pos ⟨ht, x_ixN hk hn⟩, x_clampN (by omega)]
  · refine xT.s4 hM hf rfl rfl rfl rfl rfl rfl h7 h8 ?_ (t _ rfl (x_up_set hj rfl))
    simp only [ab_s4, ha, hj]
    rw [if_pos ⟨hs, x_ixN hk hn⟩, x_clampN (by omega)]
  · refine xT.s4 hM hf rfl rfl rfl rfl rfl rfl h7 h8 ?_ (t _ rfl (x_up_set hj rfl))
    simp only [ab_s4, hw, hj]
    rw [if_pos ⟨hs, x_ixN hk hn⟩, x_clampN (by omega)]
theorem x_el.str (hv : v = .null ∨ ∃ n, j_str e h v n) : x_el h 3 v := by
  rcases hv with z | ⟨n, F, r, g, z, -⟩
  · exact Or.inl z
  · rcases z with ⟨a, z1, z2⟩ | ⟨w, z1, z2⟩
    · exact Or.inr (Or.inl ⟨a, 9, F, z1, z2, by decide⟩)
    · exact Or.inr (Or.inr ⟨w, 9, F, z1, z2, by decide⟩)
/-- a load of a value that is null or a reference -/
theorem xT.alN {i} (hM : (x_mt e.1)[mi]? = some M) (hf : ab_fe M pc = some (.aload_n i, len, tg)) (hg : ab_get L i = some v) (hv : v = .null ∨ x_rv v) (t : xT e d mi (pc + 1) L (v :: S) h Q) : xT e d mi pc L S h Q := by
  rcases hv with z | z
  · subst z
    exact xT.s1 hM hf (by simp only [ab_s1, hg]) t
  · exact xT.al hM hf hg z t
theorem x_mul2 (c : Nat) : Int32.ofInt 2 * nI c = nI (2 * c) := (Int32.ofNat_mul 2 c).symm
theorem x_upd1 (f : Nat → Value) (k : Nat) (v : Value) : updV f k v k = v := by unfold updV; rw [if_pos rfl]
theorem x_upd0 {f : Nat → Value} {k i : Nat} {v : Value} (h : i ≠ k) : updV f k v i = f i := by unfold updV; rw [if_neg h]
end XVA
/-- a Value at a: its rows of n, c of them in use -/
def m_V (e : xE) (h : ab_H) (a : Nat) (G : List Value) (qp qn ql c n : Nat) (pf nf : Nat → Value) (lf : Nat → Int32) : Prop := h[a]? = some (.inr (11, G)) ∧ G.length = 9 ∧ (G[5]? = some (.ref qp) ∧ G[6]? = some (.ref qn) ∧ G[7]? = some (.ref ql) ∧ G[8]? = some (.int (nI c))) ∧ (h[qp]? = some (.inl (4, n, pf)) ∧ h[qn]? = some (.inl (3, n, nf)) ∧ h[ql]? = some (.inl (1, n, fun j => .int (lf j)))) ∧ (c ≤ n ∧ n ≤ 20000) ∧ (∀ i, i < c → ∃ b F, pf i = .ref b ∧ h[b]? = some (.inr (11, F))) ∧ ∀ i, i < c → nf i = .null ∨ ∃ m, j_str e h (nf i) m
section XVB
variable {e : xE} {d a qp qn ql c n b : Nat} {h : ab_H} {G Fb : List Value} {pf nf : Nat → Value} {lf : Nat → Int32} {nm : Value} {y : Int32}
theorem m_vinit {kd pl : Int32} (ha : h[a]? = some (.inr (11, x_cd 11))) (r1 : h.length + 3 ≤ e.2.2.2.1) (r2 : ab_sz h + 6 ≤ e.2.2.2.2.1) : xT e d 47 0 [(0, .ref a), (1, .int kd), (2, .int pl)] [] h (fun o h' => ∃ v, o = .inl v ∧ v = none ∧ ∃ G, m_V e h' a G h.length (h.length + 1) (h.length + 2) 0 2 (fun _ => .null) (fun _ => .null) (fun _ => 0) ∧ G[0]? = some (.int kd) ∧ G[1]? = some (.int pl) ∧ G[4]? = some .null ∧ G[3]? = some (.long 0) ∧ (∀ (k : Nat) (x : ab_E), h[k]? = some x → k ≠ a → h'[k]? = some x) ∧ h'.length = h.length + 3 ∧ ab_sz h' = ab_sz h + 6) := by
  have la : (x_cd 11).length = 9 := rfl
  have g4 : (x_cd 11)[4]? = some .null := rfl
  have g3 : (x_cd 11)[3]? = some (.long 0) := rfl
  have g8 : (x_cd 11)[8]? = some (.int (nI 0)) := rfl
  have ha0 := ha
  have r10 := r1
  have r20 := r2
  have hM : (x_mt e.1)[47]? = some xM47 := rfl
  refine xT.s1 hM rfl rfl ?_
  refine xT.ob hM rfl rfl rfl rfl rfl rfl ?_
  refine xT.s1 hM rfl rfl ?_
  refine xT.s1 hM rfl rfl ?_
  refine xT.newa (m := 2) hM rfl rfl rfl rfl (by omega) (by omega) (by omega) (fun k1 ek1 w1 => ?_)
  replace ha := w1.2.1 _ _ ha
  have z1 := w1.2.2.1
  have y1 : ab_sz k1 = ab_sz _ + 2 := w1.2.2.2
  refine xT.put hM rfl rfl ha (Or.inl rfl) (by rw [la]; decide) (rfl) (Or.inl rfl) (fun h_1 F_1 eF1 eh1 up1 fb1 fo1 fl1 => ?_)
  replace ha := up1.1
  replace la := fl1.trans la
  replace g3 := (fo1 3 (by decide)).trans g3
  replace g4 := (fo1 4 (by decide)).trans g4
  replace g8 := (fo1 8 (by decide)).trans g8
  have fv5 := fb1
  have zz1 := up1.2.2.1
  have yy1 := up1.2.2.2
  refine xT.s1 hM rfl rfl ?_
  refine xT.s1 hM rfl rfl ?_
  refine xT.newa (m := 2) hM rfl rfl rfl rfl (by omega) (by omega) (by omega) (fun k2 ek2 w2 => ?_)
  replace ha := w2.2.1 _ _ ha
  have z2 := w2.2.2.1
  have y2 : ab_sz k2 = ab_sz _ + 2 := w2.2.2.2
  refine xT.put hM rfl rfl ha (Or.inl rfl) (by rw [la]; decide) (rfl) (Or.inl rfl) (fun h_2 F_2 eF2 eh2 up2 fb2 fo2 fl2 => ?_)
  replace ha := up2.1
  replace la := fl2.trans la
  replace g3 := (fo2 3 (by decide)).trans g3
  replace g4 := (fo2 4 (by decide)).trans g4
  replace g8 := (fo2 8 (by decide)).trans g8
  replace fv5 := (fo2 5 (by decide)).trans fv5
  have fv6 := fb2
  have zz2 := up2.2.2.1
  have yy2 := up2.2.2.2
  refine xT.s1 hM rfl rfl ?_
  refine xT.s1 hM rfl rfl ?_
  refine xT.newi (m := 2) hM rfl (by omega) (by omega) (by omega) (fun k3 ek3 w3 => ?_)
  replace ha := w3.2.1 _ _ ha
  have z3 := w3.2.2.1
  have y3 : ab_sz k3 = ab_sz _ + 2 := w3.2.2.2
  refine xT.put hM rfl rfl ha (Or.inl rfl) (by rw [la]; decide) (rfl) (Or.inl rfl) (fun h_3 F_3 eF3 eh3 up3 fb3 fo3 fl3 => ?_)
  replace ha := up3.1
  replace la := fl3.trans la
  replace g3 := (fo3 3 (by decide)).trans g3
  replace g4 := (fo3 4 (by decide)).trans g4
  replace g8 := (fo3 8 (by decide)).trans g8
  replace fv5 := (fo3 5 (by decide)).trans fv5
  replace fv6 := (fo3 6 (by decide)).trans fv6
  have fv7 := fb3
  have zz3 := up3.2.2.1
  have yy3 := up3.2.2.2
  refine xT.s1 hM rfl rfl ?_
  refine xT.s1 hM rfl rfl ?_
  refine xT.put hM rfl rfl ha (Or.inl rfl) (by rw [la]; decide) (rfl) (Or.inr ⟨rfl, rfl, rfl⟩) (fun h_4 F_4 eF4 eh4 up4 fb4 fo4 fl4 => ?_)
  replace ha := up4.1
  replace la := fl4.trans la
  replace g3 := (fo4 3 (by decide)).trans g3
  replace g4 := (fo4 4 (by decide)).trans g4
  replace g8 := (fo4 8 (by decide)).trans g8
  replace fv5 := (fo4 5 (by decide)).trans fv5
  replace fv6 := (fo4 6 (by decide)).trans fv6
  replace fv7 := (fo4 7 (by decide)).trans fv7
  have fv0 := fb4
  refine xT.s1 hM rfl rfl ?_
  refine xT.s1 hM rfl rfl ?_
  refine xT.put hM rfl rfl ha (Or.inl rfl) (by rw [la]; decide) (rfl) (Or.inr ⟨rfl, rfl, rfl⟩) (fun h_5 F_5 eF5 eh5 up5 fb5 fo5 fl5 => ?_)
  replace ha := up5.1
  replace la := fl5.trans la
  replace g3 := (fo5 3 (by decide)).trans g3
  replace g4 := (fo5 4 (by decide)).trans g4
  replace g8 := (fo5 8 (by decide)).trans g8
  replace fv5 := (fo5 5 (by decide)).trans fv5
  replace fv6 := (fo5 6 (by decide)).trans fv6
  replace fv7 := (fo5 7 (by decide)).trans fv7
  replace fv0 := (fo5 0 (by decide)).trans fv0
  have fv1 := fb5
  have hal := x_lt ha0
  have r1 : h_5[h.length]? = some (.inl (4, 2, fun _ => .null)) := by rw [up5.2.1 _ (by omega), up4.2.1 _ (by omega), up3.2.1 _ (by omega)]; refine w3.2.1 _ _ ?_; rw [up2.2.1 _ (by omega)]; refine w2.2.1 _ _ ?_; rw [up1.2.1 _ (by omega)]; exact w1.1
  have r2 : h_5[h.length + 1]? = some (.inl (3, 2, fun _ => .null)) := by rw [up5.2.1 _ (by omega), up4.2.1 _ (by omega), up3.2.1 _ (by omega)]; refine w3.2.1 _ _ ?_; rw [up2.2.1 _ (by omega)]; have := w2.1; rw [zz1, z1] at this; exact this
  have r3 : h_5[h.length + 2]? = some (.inl (1, 2, fun _ => .int 0)) := by rw [up5.2.1 _ (by omega), up4.2.1 _ (by omega), up3.2.1 _ (by omega)]; have := w3.1; rw [zz2, z2, zz1, z1] at this; exact this
  exact xT.ret hM rfl rfl rfl rfl (⟨_, rfl, rfl, _, ⟨ha, la, ⟨fv5, by rw [fv6, zz1, z1], by rw [fv7, zz2, z2, zz1, z1], g8⟩, ⟨r1, r2, r3⟩, ⟨by omega, by omega⟩, fun i hi => absurd hi (Nat.not_lt_zero i), fun i hi => absurd hi (Nat.not_lt_zero i)⟩, fv0, fv1, g4, g3, fun k x hk hn => by rw [up5.2.1 _ hn, up4.2.1 _ hn, up3.2.1 _ hn]; refine w3.2.1 _ _ ?_; rw [up2.2.1 _ hn]; refine w2.2.1 _ _ ?_; rw [up1.2.1 _ hn]; exact w1.2.1 _ _ hk, by rw [up5.2.2.1, up4.2.2.1, zz3, z3, zz2, z2, zz1, z1], by rw [up5.2.2.2, up4.2.2.2, yy3, y3, yy2, y2, yy1, y1]⟩)
theorem j_str.by {h' : ab_H} {v : Value} {n : Nat} (k1 : ∀ (k : Nat) (F : List Value), h[k]? = some (.inr (9, F)) → h'[k]? = some (.inr (9, F))) (k2 : ∀ (k n : Nat) (f : Nat → Value), h[k]? = some (.inl (0, n, f)) → h'[k]? = some (.inl (0, n, f))) (k : j_str e h v n) : j_str e h' v n := by
  obtain ⟨F, r, f, h1, h2, h3, h4, h5⟩ := k
  refine ⟨F, r, f, ?_, h2, h3, ?_, h5⟩
  · rcases h1 with ⟨a, z, y⟩ | z
    · exact Or.inl ⟨a, z, k1 _ _ y⟩
    · exact Or.inr z
  · rcases h4 with ⟨a, z, y⟩ | z
    · exact Or.inl ⟨a, z, k2 _ _ _ y⟩
    · exact Or.inr z
theorem j_str.keptR {h' : ab_H} {v : Value} {n q t0 m : Nat} {f : Nat → Value} (fr : ∀ (k : Nat) (x : ab_E), h[k]? = some x → k ≠ q → h'[k]? = some x) (hq : h[q]? = some (.inl (t0, m, f))) (h0 : t0 ≠ 0) (k : j_str e h v n) : j_str e h' v n :=
  k.by (fun _ _ hk => fr _ _ hk (x_neq hk hq (by simp))) (fun _ _ _ hk => fr _ _ hk (x_neq hk hq (by simp; omega)))
theorem m_addT (hV : m_V e h a G qp qn ql c n pf nf lf) (hcn : c < n) (hb : h[b]? = some (.inr (11, Fb))) (hnm : nm = .null ∨ ∃ n, j_str e h nm n) : xT e d 48 116 [(0, .ref a), (1, nm), (2, .int y), (3, .ref b)] [] h (fun o h' => ∃ v, o = .inl v ∧ v = none ∧ ∃ G' pf' nf' lf', m_V e h' a G' qp qn ql (c + 1) n pf' nf' lf' ∧ (∀ i, i < c → pf' i = pf i ∧ nf' i = nf i) ∧ pf' c = .ref b ∧ nf' c = nm ∧ (∀ i, i < 5 → G'[i]? = G[i]?) ∧ (∀ (k : Nat) (x : ab_E), h[k]? = some x → k ≠ a → k ≠ qp → k ≠ qn → k ≠ ql → h'[k]? = some x) ∧ h'.length = h.length ∧ ab_sz h' = ab_sz h) := by
  have hM : (x_mt e.1)[48]? = some xM48 := rfl
  obtain ⟨ha, la, ⟨g5, g6, g7, g8⟩, ⟨hp, hn, hl⟩, ⟨c1, c2⟩, ch, cn⟩ := id hV
  have ha0 := ha
  have hp0 := hp
  have hn0 := hn
  have hl0 := hl
  refine xT.s1 hM rfl rfl ?_
  refine xT.s2 hM rfl rfl (x2_get rfl (Or.inl rfl) ha g5) ?_
  refine xT.s1 hM rfl rfl ?_
  refine xT.s2 hM rfl rfl (x2_get rfl (Or.inl rfl) ha g8) ?_
  refine xT.s1 hM rfl rfl ?_
  refine xT.aast hM rfl rfl rfl hp rfl (Or.inr (Or.inl ⟨b, 11, Fb, rfl, hb, by decide⟩)) hcn (by omega) (fun h1 e1 u1 => ?_)
  replace ha := (u1.2.1 _ (x_neq ha hp (by simp))).trans ha
  replace hn := (u1.2.1 _ (x_neq hn hp (by simp))).trans hn
  replace hl := (u1.2.1 _ (x_neq hl hp (by simp))).trans hl
  have fr1 : ∀ (k : Nat) (x : ab_E), h[k]? = some x → k ≠ qp → h1[k]? = some x := fun k x hk hn => (u1.2.1 k hn).trans hk
  refine xT.s1 hM rfl rfl ?_
  refine xT.s2 hM rfl rfl (x2_get rfl (Or.inl rfl) ha g6) ?_
  refine xT.s1 hM rfl rfl ?_
  refine xT.s2 hM rfl rfl (x2_get rfl (Or.inl rfl) ha g8) ?_
  have hnv : nm = .null ∨ x_rv nm := by
    rcases hnm with z | ⟨n, z⟩
    · exact Or.inl z
    · exact Or.inr z.rv
  refine xT.alN hM rfl rfl hnv ?_
  have hnm1 : nm = .null ∨ ∃ n, j_str e h1 nm n := by
    rcases hnm with z | ⟨m, z⟩
    · exact Or.inl z
    · exact Or.inr ⟨m, z.keptR fr1 hp (by decide)⟩
  refine xT.aast hM rfl rfl rfl hn rfl (x_el.str hnm1) hcn (by omega) (fun h2 e2 u2 => ?_)
  have hp2 := (u2.2.1 _ (x_neq u1.1 hn (by simp))).trans u1.1
  replace ha := (u2.2.1 _ (x_neq ha hn (by simp))).trans ha
  replace hl := (u2.2.1 _ (x_neq hl hn (by simp))).trans hl
  refine xT.s1 hM rfl rfl ?_
  refine xT.s2 hM rfl rfl (x2_get rfl (Or.inl rfl) ha g7) ?_
  refine xT.s1 hM rfl rfl ?_
  refine xT.s2 hM rfl rfl (x2_get rfl (Or.inl rfl) ha g8) ?_
  refine xT.s1 hM rfl rfl ?_
  refine xT.iast hM rfl hl hcn (by omega) (fun h3 e3 u3 => ?_)
  have hn3 := (u3.2.1 _ (x_neq u2.1 hl (by simp))).trans u2.1
  have hp3 := (u3.2.1 _ (x_neq hp2 hl (by simp))).trans hp2
  have ha3 := (u3.2.1 _ (x_neq ha hl (by simp))).trans ha
  replace ha := ha3
  have hl3 := u3.1
  rw [x_updI] at hl3
  refine xT.s1 hM rfl rfl ?_
  refine xT.s1 hM rfl rfl ?_
  refine xT.s2 hM rfl rfl (x2_get rfl (Or.inl rfl) ha g8) ?_
  refine xT.s1 hM rfl rfl ?_
  refine xT.s1 hM rfl rfl ?_
  rw [show nI c + Int32.ofInt 1 = nI (c + 1) from nI_add c 1]
  refine xT.put hM rfl rfl ha (Or.inl rfl) (by rw [la]; decide) (rfl) (Or.inl rfl) (fun h_1 F_1 eF1 eh1 up1 fb1 fo1 fl1 => ?_)
  replace hp3 := (up1.2.1 _ (x_neq hp3 ha (by simp))).trans hp3
  replace hn3 := (up1.2.1 _ (x_neq hn3 ha (by simp))).trans hn3
  replace hl3 := (up1.2.1 _ (x_neq hl3 ha (by simp))).trans hl3
  replace ha := up1.1
  replace la := fl1.trans la
  replace g5 := (fo1 5 (by decide)).trans g5
  replace g6 := (fo1 6 (by decide)).trans g6
  replace g7 := (fo1 7 (by decide)).trans g7
  replace g8 := fb1
  have fr : ∀ (k : Nat) (x : ab_E), h[k]? = some x → k ≠ a → k ≠ qp → k ≠ qn → k ≠ ql → h_1[k]? = some x := fun k x hk n1 n2 n3 n4 => (up1.2.1 k n1).trans ((u3.2.1 k n4).trans ((u2.2.1 k n3).trans ((u1.2.1 k n2).trans hk)))
  have obj : ∀ (k : Nat) (F : List Value), h[k]? = some (.inr (11, F)) → ∃ F', h_1[k]? = some (.inr (11, F')) := fun k F hk => by
    by_cases hka : k = a
    · subst hka; exact ⟨_, ha⟩
    · exact ⟨F, fr k _ hk hka (x_neq hk hp0 (by simp)) (x_neq hk hn0 (by simp)) (x_neq hk hl0 (by simp))⟩
  have st : ∀ v m, j_str e h v m → j_str e h_1 v m := fun v m z => z.by (fun k F hk => fr k _ hk (x_neq hk ha0 (by simp)) (x_neq hk hp0 (by simp)) (x_neq hk hn0 (by simp)) (x_neq hk hl0 (by simp))) (fun k n f hk => fr k _ hk (x_neq hk ha0 (by simp)) (x_neq hk hp0 (by simp)) (x_neq hk hn0 (by simp)) (x_neq hk hl0 (by simp)))
  refine xT.ret hM rfl rfl rfl rfl ⟨_, rfl, rfl, _, _, _, _, ⟨ha, la, ⟨g5, g6, g7, g8⟩, ⟨hp3, hn3, hl3⟩, ⟨hcn, c2⟩, fun i hi => ?_, fun i hi => ?_⟩, fun i hi => ⟨x_upd0 (by omega), x_upd0 (by omega)⟩, x_upd1 _ _ _, x_upd1 _ _ _, fun i hi => fo1 i (by omega), fr, ?_, ?_⟩
  · by_cases hic : i = c
    · subst hic
      obtain ⟨F', hF'⟩ := obj b Fb hb
      exact ⟨b, F', x_upd1 _ _ _, hF'⟩
    · obtain ⟨bi, Fi, z1, z2⟩ := ch i (by omega)
      obtain ⟨F', hF'⟩ := obj bi Fi z2
      exact ⟨bi, F', (x_upd0 hic).trans z1, hF'⟩
  · by_cases hic : i = c
    · subst hic
      rw [x_upd1]
      rcases hnm with z | ⟨m, z⟩
      · exact Or.inl z
      · exact Or.inr ⟨m, st _ _ z⟩
    · rw [x_upd0 hic]
      rcases cn i (by omega) with z | ⟨m, z⟩
      · exact Or.inl z
      · exact Or.inr ⟨m, st _ _ z⟩
  · rw [up1.2.2.1, u3.2.2.1, u2.2.2.1, u1.2.2.1]
  · rw [up1.2.2.2, u3.2.2.2, u2.2.2.2, u1.2.2.2]
end XVB
