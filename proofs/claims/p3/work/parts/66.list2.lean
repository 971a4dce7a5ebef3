/-! the JDK: ArrayList's add, get, size, clear -/
section XLJ
variable {e : xE} {d qa qe cap sz b : Nat} {h : ab_H} {Fa G : List Value} {ef : Nat → Value}
/-- how add ends -/
def c_LA (h : ab_H) (qa qe cap sz b : Nat) (ef : Nat → Value) (h' : ab_H) : Prop := ∃ (Fa' : List Value) (qe' cap' : Nat) (ef' : Nat → Value), c_L h' qa Fa' qe' cap' (sz + 1) ef' ∧ 10 ≤ cap' ∧ (∀ i, i < sz → ef' i = ef i) ∧ ef' sz = .ref b ∧ (∀ (k : Nat) (x : ab_E), h[k]? = some x → k ≠ qa → (∀ n f, x ≠ .inl (5, n, f)) → h'[k]? = some x) ∧ (qe' = qe ∨ qe' = h.length) ∧ h.length ≤ h'.length ∧ 5 * h'.length + cap ≤ 5 * h.length + cap' ∧ ab_sz h' + 4 * cap ≤ ab_sz h + 4 * cap' ∧ cap ≤ cap' ∧ (cap' = cap ∨ (sz = cap ∧ cap' ≤ 2 * cap + 10)) ∧ (∀ (k : Nat) (G : List Value), h'[k]? = some (.inr (10, G)) → h[k]? = some (.inr (10, G)))
theorem c_addT (hL : c_L h qa Fa qe cap sz ef) (f0 : Fa[0]? = some (.ref qe)) (he : h[qe]? = some (.inl (5, cap, ef))) (h10 : 10 ≤ cap) (hlt : sz < cap) (hb : h[b]? = some (.inr (10, G))) : xT e d 51 11 [(2, .ref qe), (0, .ref qa), (1, .ref b), (3, .int (nI sz))] [] h (fun o h' => ∃ v, o = .inl v ∧ v = none ∧ ∃ Fa' ef', c_L h' qa Fa' qe cap (sz + 1) ef' ∧ (∀ i, i < sz → ef' i = ef i) ∧ ef' sz = .ref b ∧ (∀ (k : Nat) (x : ab_E), h[k]? = some x → k ≠ qa → k ≠ qe → h'[k]? = some x) ∧ h'.length = h.length ∧ ab_sz h' = ab_sz h ∧ (∀ (k : Nat) (G : List Value), h'[k]? = some (.inr (10, G)) → h[k]? = some (.inr (10, G)))) := by
  have hM : (x_mt e.1)[51]? = some xM51 := rfl
  obtain ⟨ha, la, f1, ⟨z2, f2⟩, hd, hs, hc, hN⟩ := id hL
  have he0 := he
  have ha0 := ha
  refine xT.s1 hM rfl rfl ?_
  refine xT.s1 hM rfl rfl ?_
  refine xT.s1 hM rfl rfl ?_
  refine xT.aast hM rfl rfl rfl he rfl (Or.inr (Or.inl ⟨b, 10, G, rfl, hb, by decide⟩)) hlt (by omega) (fun s1 e1 u1 => ?_)
  replace ha := (u1.2.1 _ (x_neq ha he (by simp))).trans ha
  replace he := u1.1
  refine xT.s1 hM rfl rfl ?_
  refine xT.s1 hM rfl rfl ?_
  refine xT.s1 hM rfl rfl ?_
  refine xT.s1 hM rfl rfl ?_
  rw [show nI sz + Int32.ofInt 1 = nI (sz + 1) from nI_add sz 1]
  refine xT.put hM rfl rfl ha (Or.inl rfl) (by rw [la]; decide) (rfl) (Or.inl rfl) (fun h_1 F_1 eF1 eh1 up1 fb1 fo1 fl1 => ?_)
  replace he := (up1.2.1 _ (x_neq he ha (by simp))).trans he
  replace ha := up1.1
  replace la := fl1.trans la
  replace f0 := (fo1 0 (by decide)).trans f0
  replace f2 := (fo1 2 (by decide)).trans f2
  replace f1 := fb1
  have fr : ∀ (k : Nat) (x : ab_E), h[k]? = some x → k ≠ qa → k ≠ qe → h_1[k]? = some x := fun k x hk n1 n2 => (up1.2.1 k n1).trans ((u1.2.1 k n2).trans hk)
  have fN : ∀ (k : Nat) (G : List Value), h[k]? = some (.inr (10, G)) → ∃ G', h_1[k]? = some (.inr (10, G')) := fun k G hk => ⟨G, fr k _ hk (x_neq hk ha0 (by simp)) (x_neq hk he0 (by simp))⟩
  refine xT.ret hM rfl rfl rfl rfl (⟨_, rfl, rfl, _, _, ⟨ha, la, f1, ⟨_, f2⟩, Or.inr ⟨f0, he, h10⟩, hlt, hc, fun i hi => ?_⟩, fun i hi => x_upd0 (by omega), x_upd1 _ _ _, fr, up1.2.2.1.trans u1.2.2.1, up1.2.2.2.trans u1.2.2.2, fun k G hk => x_rev_up u1 (by simp) (x_rev_up up1 (by simp) hk)⟩)
  by_cases hi2 : i = sz
  · subst hi2; rw [x_upd1]; exact c_N.kept ⟨b, G, rfl, hb⟩ fN
  · rw [x_upd0 hi2]; exact (hN i (by omega)).kept fN
theorem c_add51 {dv : Value} (hL : c_L h qa Fa qe cap sz ef) (hb : h[b]? = some (.inr (10, G))) (hcap : sz ≤ 8500) (r1 : h.length + 1 ≤ e.2.2.2.1) (r2 : ab_sz h + 20000 ≤ e.2.2.2.2.1) (hD : Fa[0]? = some dv) : xT e (d + 5) 51 0 [(0, .ref qa), (1, .ref b), (2, dv), (3, .int (nI sz))] [] h (fun o h' => ∃ v, o = .inl v ∧ v = none ∧ c_LA h qa qe cap sz b ef h') := by
  have hM : (x_mt e.1)[51]? = some xM51 := rfl
  obtain ⟨ha, la, f1, ⟨z2, f2⟩, hd, hs, hc, hN⟩ := id hL
  rcases hd with ⟨f0, rfl, rfl⟩ | ⟨f0, he, h10⟩
  · rw [f0] at hD
    obtain rfl := Option.some.inj hD
    have hsc : 0 = 0 := rfl
    refine xT.s1 hM rfl rfl ?_
    refine xT.s1 hM rfl rfl ?_
    refine xT.s2 hM rfl rfl (by rfl) ?_
    refine xT.s1 hM rfl rfl ?_
    refine xT.brT (by decide) ?_
    refine xT.s1 hM rfl rfl ?_
    refine xT.go hM rfl rfl rfl rfl rfl rfl (xc_virt rfl rfl rfl ha ⟨rfl, Nat.le_of_ble_eq_true rfl, rfl, Or.inl rfl⟩) rfl ⟨Nat.le_of_ble_eq_true rfl, Nat.le_of_ble_eq_true rfl, by decide⟩ (c_grow0 hL hsc (by omega) r1 r2) (fun v h2 hv => ?_)
    obtain ⟨rfl, Fa1, cap1, ef1, hL1, e0, e1, e2, e3, e4, e5, e6, e7, e8, e9⟩ := hv
    have hd1 := hL1.2.2.2.2.1
    have he1 : h2[h.length]? = some (.inl (5, cap1, ef1)) ∧ 10 ≤ cap1 := by
      rcases hd1 with ⟨z, -⟩ | ⟨-, z2, z3⟩
      · rw [e0] at z; cases z
      · exact ⟨z2, z3⟩
    obtain ⟨Gb, hb2⟩ : ∃ Gb, h2[b]? = some (.inr (10, Gb)) := ⟨G, e6 _ _ hb (x_neq hb ha (by simp))⟩
    refine xT.s1 hM rfl rfl ?_
    refine (c_addT hL1 e0 he1.1 he1.2 e1 hb2).mono (fun o h' ho => ?_)
    obtain ⟨v, y1, y2, Fa', ef', y3, y4, y5, y6, y7, y8, y9⟩ := ho
    exact ⟨v, y1, y2, Fa', h.length, cap1, ef', y3, he1.2, fun i hi => (y4 i hi).trans (e5 i hi), y5, fun k x hk n1 n2 => y6 k x (e6 k x hk n1) n1 (by have := x_lt hk; omega), Or.inr rfl, by omega, by omega, by omega, by omega, Or.inr ⟨hsc, by omega⟩, fun k G hk => e9 k G (y9 k G hk)⟩
  · rw [f0] at hD
    obtain rfl := Option.some.inj hD
    refine xT.s1 hM rfl rfl ?_
    refine xT.s1 hM rfl rfl ?_
    refine xT.s2 hM rfl rfl (x2_alen he (by decide)) ?_
    refine xT.s1 hM rfl rfl ?_
    refine xT.br (fun b0 => ?_) (fun b0 => ?_)
    · have hsc : sz = cap := (nI_eq (by omega) (by omega)).mp b0
      refine xT.s1 hM rfl rfl ?_
      refine xT.go hM rfl rfl rfl rfl rfl rfl (xc_virt rfl rfl rfl ha ⟨rfl, Nat.le_of_ble_eq_true rfl, rfl, Or.inl rfl⟩) rfl ⟨Nat.le_of_ble_eq_true rfl, Nat.le_of_ble_eq_true rfl, by decide⟩ (c_grow0 hL hsc (by omega) r1 r2) (fun v h2 hv => ?_)
      obtain ⟨rfl, Fa1, cap1, ef1, hL1, e0, e1, e2, e3, e4, e5, e6, e7, e8, e9⟩ := hv
      have hd1 := hL1.2.2.2.2.1
      have he1 : h2[h.length]? = some (.inl (5, cap1, ef1)) ∧ 10 ≤ cap1 := by
        rcases hd1 with ⟨z, -⟩ | ⟨-, z2, z3⟩
        · rw [e0] at z; cases z
        · exact ⟨z2, z3⟩
      obtain ⟨Gb, hb2⟩ : ∃ Gb, h2[b]? = some (.inr (10, Gb)) := ⟨G, e6 _ _ hb (x_neq hb ha (by simp))⟩
      refine xT.s1 hM rfl rfl ?_
      refine (c_addT hL1 e0 he1.1 he1.2 e1 hb2).mono (fun o h' ho => ?_)
      obtain ⟨v, y1, y2, Fa', ef', y3, y4, y5, y6, y7, y8, y9⟩ := ho
      exact ⟨v, y1, y2, Fa', h.length, cap1, ef', y3, he1.2, fun i hi => (y4 i hi).trans (e5 i hi), y5, fun k x hk n1 n2 => y6 k x (e6 k x hk n1) n1 (by have := x_lt hk; omega), Or.inr rfl, by omega, by omega, by omega, by omega, Or.inr ⟨hsc, by omega⟩, fun k G hk => e9 k G (y9 k G hk)⟩
    · have hlt : sz < cap := Nat.lt_of_le_of_ne hs (fun z => b0 (by rw [z]))
      refine xT.weak (L := [(2, .ref qe), (0, .ref qa), (1, .ref b), (3, .int (nI sz))]) (L' := [(0, _), (1, _), (2, _), (3, _)]) ⟨by simp, by simp⟩ ((c_addT hL f0 he h10 hlt hb).mono (fun o h' ho => ?_))
      obtain ⟨v, y1, y2, Fa', ef', y3, y4, y5, y6, y7, y8, y9⟩ := ho
      exact ⟨v, y1, y2, Fa', qe, cap, ef', y3, h10, y4, y5, fun k x hk n1 n2 => y6 k x hk n1 (fun z => by subst z; rw [he] at hk; exact n2 _ _ (Option.some.inj hk).symm), Or.inl rfl, by omega, by omega, by omega, by omega, Or.inl rfl, y9⟩
theorem c_add (hL : c_L h qa Fa qe cap sz ef) (hb : h[b]? = some (.inr (10, G))) (hcap : sz ≤ 8500) (r1 : h.length + 1 ≤ e.2.2.2.1) (r2 : ab_sz h + 20000 ≤ e.2.2.2.2.1) : xT e (d + 6) 50 0 [(0, .ref qa), (1, .ref b)] [] h (fun o h' => ∃ v, o = .inl v ∧ v = some (.int 1) ∧ c_LA h qa qe cap sz b ef h') := by
  have hM : (x_mt e.1)[50]? = some xM50 := rfl
  obtain ⟨ha, la, f1, ⟨z2, f2⟩, hd, hs, hc, hN⟩ := id hL
  have ha0 := ha
  refine xT.s1 hM rfl rfl ?_
  refine xT.s1 hM rfl rfl ?_
  refine xT.s2 hM rfl rfl (x2_get rfl (Or.inl rfl) ha f2) ?_
  refine xT.s1 hM rfl rfl ?_
  refine xT.s1 hM rfl rfl ?_
  refine xT.put hM rfl rfl ha (Or.inl rfl) (by rw [la]; decide) (rfl) (Or.inl rfl) (fun h_1 F_1 eF1 eh1 up1 fb1 fo1 fl1 => ?_)
  replace ha := up1.1
  replace la := fl1.trans la
  replace f1 := (fo1 1 (by decide)).trans f1
  replace f2 := fb1
  have fN : ∀ (k : Nat) (G : List Value), h[k]? = some (.inr (10, G)) → ∃ G', h_1[k]? = some (.inr (10, G')) := fun k G hk => ⟨G, (up1.2.1 k (x_neq hk ha0 (by simp))).trans hk⟩
  have hL1 : c_L h_1 qa F_1 qe cap sz ef := ⟨ha, la, f1, ⟨_, f2⟩, by
    rcases hd with ⟨y1, y2, y3⟩ | ⟨y1, y2, y3⟩
    · exact Or.inl ⟨(fo1 0 (by decide)).trans y1, y2, y3⟩
    · exact Or.inr ⟨(fo1 0 (by decide)).trans y1, (up1.2.1 _ (x_neq y2 ha0 (by simp))).trans y2, y3⟩, hs, hc, fun i hi => (hN i hi).kept fN⟩
  obtain ⟨dv, hD, hdv⟩ : ∃ dv, F_1[0]? = some dv ∧ x_rv dv := by
    rcases hL1.2.2.2.2.1 with ⟨y1, -⟩ | ⟨y1, -⟩
    · exact ⟨_, y1, Or.inr ⟨_, rfl⟩⟩
    · exact ⟨_, y1, Or.inl ⟨_, rfl⟩⟩
  have ln := up1.2.2.1
  have sn := up1.2.2.2
  refine xT.s1 hM rfl rfl ?_
  refine xT.s1 hM rfl rfl ?_
  refine xT.s1 hM rfl rfl ?_
  refine xT.s2 hM rfl rfl (x2_get rfl (Or.inl rfl) ha hD) ?_
  refine xT.s1 hM rfl rfl ?_
  refine xT.s2 hM rfl rfl (x2_get rfl (Or.inl rfl) ha f1) ?_
  refine xT.go hM rfl rfl rfl rfl rfl rfl (xc_virt rfl rfl rfl ha ⟨rfl, Nat.le_of_ble_eq_true rfl, rfl, Or.inl rfl⟩) rfl ⟨Nat.le_of_ble_eq_true rfl, by show (lg_sl [Value.ref qa, .ref b, dv, .int (nI sz)]).length ≤ _; simp [lg_sl, x_cr, x_ci, hdv.cat]; decide, by decide⟩ (xT.cast (by show lv_args 0 [Value.ref qa, .ref b, dv, .int (nI sz)] = _; simp [lv_args, x_cr, x_ci, hdv.cat]) (c_add51 hL1 ((up1.2.1 _ (x_neq hb ha0 (by simp))).trans hb) hcap (by omega) (by omega) hD)) (fun v h2 hv => ?_)
  obtain ⟨rfl, hv⟩ := hv
  refine xT.s1 hM rfl rfl ?_
  obtain ⟨Fa2, qe2, cap2, ef2, y1, y2, y3, y4, y5, y6, y7, y8, y9, y10, y11, y12⟩ := hv
  exact xT.ret hM rfl rfl rfl rfl (⟨_, rfl, rfl, Fa2, qe2, cap2, ef2, y1, y2, y3, y4, fun k x hk n1 n2 => y5 k x ((up1.2.1 k n1).trans hk) n1 n2, by rw [← ln]; exact y6, by omega, by omega, by omega, y10, y11, fun k G hk => x_rev_up up1 (by simp) (y12 k G hk)⟩)
theorem c_size (hL : c_L h qa Fa qe cap sz ef) : xT e d 57 0 [(0, .ref qa)] [] h (fun o h' => ∃ v, o = .inl v ∧ v = some (.int (nI sz)) ∧ h' = h) := by
  have hM : (x_mt e.1)[57]? = some xM57 := rfl
  obtain ⟨ha, la, f1, -⟩ := id hL
  refine xT.s1 hM rfl rfl ?_
  refine xT.s2 hM rfl rfl (x2_get rfl (Or.inl rfl) ha f1) ?_
  exact xT.ret hM rfl rfl rfl rfl (⟨_, rfl, rfl, rfl⟩)
theorem c_elem {j : Nat} (hL : c_L h qa Fa qe cap sz ef) (hj : j < sz) : xT e d 56 0 [(0, .ref qa), (1, .int (nI j))] [] h (fun o h' => ∃ v, o = .inl v ∧ (∃ bb Gb, v = some (.ref bb) ∧ h[bb]? = some (.inr (10, Gb))) ∧ h' = h) := by
  have hM : (x_mt e.1)[56]? = some xM56 := rfl
  obtain ⟨ha, la, f1, ⟨z2, f2⟩, hd, hs, hc, hN⟩ := id hL
  obtain ⟨f0, he⟩ : Fa[0]? = some (.ref qe) ∧ h[qe]? = some (.inl (5, cap, ef)) := by
    rcases hd with ⟨-, z, -⟩ | ⟨z1, z2, -⟩
    · omega
    · exact ⟨z1, z2⟩
  obtain ⟨bb, Gb, y1, y2⟩ := hN j hj
  refine xT.s1 hM rfl rfl ?_
  refine xT.s2 hM rfl rfl (x2_get rfl (Or.inl rfl) ha f0) ?_
  refine xT.s1 hM rfl rfl ?_
  refine xT.aald hM rfl he rfl (by omega) (by omega) ?_
  rw [y1]
  exact xT.ret hM rfl rfl rfl rfl (⟨_, rfl, ⟨bb, Gb, rfl, y2⟩, rfl⟩)
theorem j_ocidx {j n : Nat} (hj : j < n) (hn : n < 2 ^ 31) : xT e (d + 1) 69 0 [(0, .int (nI j)), (1, .int (nI n))] [] h (fun o h' => ∃ v, o = .inl v ∧ v = some (.int (nI j)) ∧ h' = h) := by
  have hM : (x_mt e.1)[69]? = some xM69 := rfl
  refine xT.s1 hM rfl rfl ?_
  refine xT.s1 hM rfl rfl ?_
  refine xT.s1 hM rfl rfl ?_
  refine xT.go hM rfl rfl rfl rfl rfl rfl (xc_stat rfl rfl ⟨rfl, Nat.le_of_ble_eq_true rfl⟩) rfl ⟨Nat.le_of_ble_eq_true rfl, Nat.le_of_ble_eq_true rfl, by decide⟩ (j_cidx hj hn) (fun v h2 hv => ?_)
  obtain ⟨rfl, hh2⟩ := hv
  subst h2
  exact xT.ret hM rfl rfl rfl rfl (⟨_, rfl, rfl, rfl⟩)
theorem c_get {j : Nat} (hL : c_L h qa Fa qe cap sz ef) (hj : j < sz) : xT e (d + 2) 55 0 [(0, .ref qa), (1, .int (nI j))] [] h (fun o h' => ∃ v, o = .inl v ∧ (∃ bb Gb, v = some (.ref bb) ∧ h[bb]? = some (.inr (10, Gb))) ∧ h' = h) := by
  have hM : (x_mt e.1)[55]? = some xM55 := rfl
  obtain ⟨ha, la, f1, ⟨z2, f2⟩, hd, hs, hc, hN⟩ := id hL
  refine xT.s1 hM rfl rfl ?_
  refine xT.s1 hM rfl rfl ?_
  refine xT.s2 hM rfl rfl (x2_get rfl (Or.inl rfl) ha f1) ?_
  refine xT.go hM rfl rfl rfl rfl rfl rfl (xc_stat rfl rfl ⟨rfl, Nat.le_of_ble_eq_true rfl⟩) rfl ⟨Nat.le_of_ble_eq_true rfl, Nat.le_of_ble_eq_true rfl, by decide⟩ (j_ocidx hj (by omega)) (fun v h2 hv => ?_)
  obtain ⟨rfl, hh2⟩ := hv
  subst h2
  refine xT.s1 hM rfl rfl ?_
  refine xT.s1 hM rfl rfl ?_
  refine xT.s1 hM rfl rfl ?_
  refine xT.go hM rfl rfl rfl rfl rfl rfl (xc_virt rfl rfl rfl ha ⟨rfl, Nat.le_of_ble_eq_true rfl, rfl, Or.inl rfl⟩) rfl ⟨Nat.le_of_ble_eq_true rfl, Nat.le_of_ble_eq_true rfl, by decide⟩ (c_elem hL hj) (fun v h2 hv => ?_)
  obtain ⟨⟨bb, Gb, rfl, y2⟩, hh2⟩ := hv
  subst h2
  exact xT.ret hM rfl rfl rfl rfl (⟨_, rfl, ⟨bb, Gb, rfl, y2⟩, rfl⟩)
end XLJ
