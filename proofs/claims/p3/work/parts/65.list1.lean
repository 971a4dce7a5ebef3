/-! the JDK: ArrayList, of nodes -/
theorem x_shr1 {n : Nat} (h : n < 2 ^ 31) : nI n >>> ((Int32.ofInt 1) &&& 31) = nI (n / 2) := by
  rw [show (Int32.ofInt 1 &&& 31 : Int32) = 1 from by decide]
  apply Int32.toInt_inj.mp
  have h1 : (nI n).toInt = (n : Int) := nI_toInt h
  have h2 : (nI (n / 2)).toInt = ((n / 2 : Nat) : Int) := nI_toInt (by omega)
  rw [h2]
  have h3 : (nI n >>> (1 : Int32)).toInt = (nI n).toInt >>> 1 := by
    show ((nI n).toBitVec.sshiftRight' ((1 : Int32).toBitVec.smod 32)).toInt = _
    rw [show ((1 : Int32).toBitVec.smod 32) = 1#32 from by decide]
    rw [BitVec.sshiftRight', BitVec.toInt_sshiftRight]
    rfl
  rw [h3, h1, Int.shiftRight_eq_div_pow]
  omega
/-- an object of class 10 -/
def c_N (h : ab_H) (v : Value) : Prop := ∃ (b : Nat) (G : List Value), v = .ref b ∧ h[b]? = some (.inr (10, G))
/-- a list at qa: its row qe of cap, sz in use; or none yet (cap 0) -/
def c_L (h : ab_H) (qa : Nat) (Fa : List Value) (qe cap sz : Nat) (ef : Nat → Value) : Prop := h[qa]? = some (.inr (4, Fa)) ∧ Fa.length = 3 ∧ Fa[1]? = some (.int (nI sz)) ∧ (∃ z, Fa[2]? = some (.int z)) ∧ ((Fa[0]? = some (.float 59) ∧ sz = 0 ∧ cap = 0) ∨ (Fa[0]? = some (.ref qe) ∧ h[qe]? = some (.inl (5, cap, ef)) ∧ 10 ≤ cap)) ∧ sz ≤ cap ∧ cap ≤ 20000 ∧ ∀ i, i < sz → c_N h (ef i)
theorem x_rev_up {h h1 : ab_H} {j k : Nat} {x : ab_E} {G : List Value} (u : x_up h j h1 x) (hx : ∀ G, x ≠ .inr (10, G)) (hk : h1[k]? = some (.inr (10, G))) : h[k]? = some (.inr (10, G)) := by
  by_cases hkj : k = j
  · subst hkj; rw [u.1] at hk; exact absurd (Option.some.inj hk) (hx G)
  · rw [u.2.1 k hkj] at hk; exact hk
theorem x_rev_nw {h h1 : ab_H} {k : Nat} {x : ab_E} {G : List Value} (e1 : h1 = h ++ [x]) (hx : ∀ G, x ≠ .inr (10, G)) (hk : h1[k]? = some (.inr (10, G))) : h[k]? = some (.inr (10, G)) := by
  have hl := x_lt hk
  rw [e1, List.length_append, List.length_singleton] at hl
  by_cases hkl : k < h.length
  · rw [e1, List.getElem?_append_left hkl] at hk; exact hk
  · have : k = h.length := by omega
    subst this
    rw [e1, List.getElem?_append_right (Nat.le_refl _), Nat.sub_self] at hk
    exact absurd (Option.some.inj hk) (hx G)
section XLI
variable {e : xE} {d qa qe cap sz b : Nat} {h : ab_H} {Fa G : List Value} {ef : Nat → Value}
theorem c_N.el {v : Value} (k : c_N h v) : x_el h 5 v := by
  obtain ⟨b, G, h1, h2⟩ := k
  exact Or.inr (Or.inl ⟨b, 10, G, h1, h2, by decide⟩)
theorem c_N.kept {h' : ab_H} {v : Value} (k : c_N h v) (x : ∀ (k : Nat) (G : List Value), h[k]? = some (.inr (10, G)) → ∃ G', h'[k]? = some (.inr (10, G'))) : c_N h' v := by
  obtain ⟨b, G, h1, h2⟩ := k
  obtain ⟨G', h3⟩ := x b G h2
  exact ⟨b, G', h1, h3⟩
theorem j_copyC {m : Nat} {w0 : UInt32} (he : h[qe]? = some (.inl (5, cap, ef))) (hN : ∀ i, i < cap → c_N h (ef i)) (hcm : cap < m) (hm : m ≤ 65536) (hw : w0 = 60) (r1 : h.length + 1 ≤ e.2.2.2.1) (r2 : ab_sz h + m ≤ e.2.2.2.2.1) : xT e (d + 1) 62 0 [(0, .ref qe), (1, .int (nI m)), (2, .float 60)] [] h (fun o h' => ∃ v, o = .inl v ∧ v = some (.ref h.length) ∧ ∃ g, h' = h ++ [(.inl (5, m, g) : ab_E)] ∧ ∀ i, i < cap → g i = ef i) := by
  have hM : (x_mt e.1)[62]? = some xM62 := rfl
  refine xT.s1 hM rfl rfl ?_
  refine xT.s5 hM rfl rfl rfl rfl rfl rfl rfl rfl rfl rfl rfl ?_
  refine xT.s4 hM rfl rfl rfl rfl rfl rfl rfl rfl rfl rfl ?_
  refine xT.s1 hM rfl rfl ?_
  refine xT.newa hM rfl rfl rfl rfl (by omega) r1 r2 (fun k ek w => ?_)
  refine xT.s1 hM rfl rfl ?_
  refine xT.s1 hM rfl rfl ?_
  refine xT.s1 hM rfl rfl ?_
  refine xT.s1 hM rfl rfl ?_
  refine xT.s1 hM rfl rfl ?_
  refine xT.s1 hM rfl rfl ?_
  refine xT.s1 hM rfl rfl ?_
  have he2 := w.2.1 _ _ he
  have hn := w.1
  refine xT.s2 hM rfl rfl (x2_alen he2 (by decide)) ?_
  refine xT.s1 hM rfl rfl ?_
  refine xT.go hM rfl rfl rfl rfl rfl rfl (xc_stat rfl rfl ⟨rfl, Nat.le_of_ble_eq_true rfl⟩) rfl ⟨Nat.le_of_ble_eq_true rfl, Nat.le_of_ble_eq_true rfl, by decide⟩ (j_min (nI cap) (nI m)) (fun v h2 hv => ?_)
  obtain ⟨rfl, hh2⟩ := hv
  subst h2
  rw [if_neg (nI_nlt (by omega) (by omega))]
  refine xT.s5 hM rfl rfl rfl rfl rfl rfl rfl rfl rfl rfl (pc' := 38) (S' := []) (h2 := k.set h.length (.inl (5, m, va_cpy ef (fun _ => .null) (Int32.ofInt 0).toNatClampNeg (Int32.ofInt 0).toNatClampNeg (nI cap).toNatClampNeg))) ?_ ?_
  · have hcp : ab_cpb x_aty x_sb x_oo k 5 cap m ef (Int32.ofInt 0) (Int32.ofInt 0) (nI cap) = true := by
      unfold ab_cpb
      rw [show x_aty[5]? = some (.object "java/lang/Object") from rfl]
      simp only [Bool.and_eq_true, Bool.not_eq_true', decide_eq_false_iff_not, decide_eq_true_eq, List.all_eq_true, List.mem_range]
      rw [nI_clamp (by omega), show (Int32.ofInt 0).toNatClampNeg = 0 from by decide]
      refine ⟨⟨⟨⟨⟨by decide, by decide⟩, nI_pos (by omega)⟩, by omega⟩, by omega⟩, fun i hi => ?_⟩
      obtain ⟨bi, Gi, y1, y2⟩ := hN i hi
      rw [Nat.zero_add, y1]
      simp only [ab_el, w.2.1 _ _ y2]
      decide
    show (match k[qe]?, k[h.length]? with
      | some (Sum.inl (t, n0, f0)), some (Sum.inl (u, n1, g0)) => if t = u ∧ ab_wt ([] : List Value) ≤ 20 ∧ ab_cpb x_aty x_sb x_oo k t n0 n1 f0 (Int32.ofInt 0) (Int32.ofInt 0) (nI cap) = true then some (38, ([] : List Value), k.set h.length (Sum.inl (u, n1, va_cpy f0 g0 (Int32.ofInt 0).toNatClampNeg (Int32.ofInt 0).toNatClampNeg (nI cap).toNatClampNeg))) else none
      | _, _ => none) = _
    rw [he2, hn]
    simp only
    rw [if_pos ⟨trivial, by decide, hcp⟩]
  rw [nI_clamp (by omega), show (Int32.ofInt 0).toNatClampNeg = 0 from by decide]
  have hset : k.set h.length (.inl (5, m, va_cpy ef (fun _ => .null) 0 0 cap)) = h ++ [(.inl (5, m, va_cpy ef (fun _ => .null) 0 0 cap) : ab_E)] := by rw [ek]; simp
  rw [hset]
  refine xT.s1 hM rfl rfl ?_
  exact xT.ret hM rfl rfl rfl rfl (⟨_, rfl, rfl, _, rfl, fun i hi => by unfold va_cpy; rw [if_pos ⟨Nat.zero_le _, by omega⟩]; simp⟩)
theorem j_copyO {m : Nat} (he : h[qe]? = some (.inl (5, cap, ef))) (hN : ∀ i, i < cap → c_N h (ef i)) (hcm : cap < m) (hm : m ≤ 65536) (r1 : h.length + 1 ≤ e.2.2.2.1) (r2 : ab_sz h + m ≤ e.2.2.2.2.1) : xT e (d + 2) 61 0 [(0, .ref qe), (1, .int (nI m))] [] h (fun o h' => ∃ v, o = .inl v ∧ v = some (.ref h.length) ∧ ∃ g, h' = h ++ [(.inl (5, m, g) : ab_E)] ∧ ∀ i, i < cap → g i = ef i) := by
  have hM : (x_mt e.1)[61]? = some xM61 := rfl
  refine xT.s1 hM rfl rfl ?_
  refine xT.s1 hM rfl rfl ?_
  refine xT.s1 hM rfl rfl ?_
  refine xT.s5 hM rfl rfl rfl rfl rfl rfl rfl rfl rfl rfl (pc' := 6) (S' := [.float 60, .int (nI m), .ref qe]) (h2 := h) ?_ ?_
  · show (match h[qe]? with
      | some (Sum.inl (u, _, _)) => if 5 = u ∧ ab_wt [Value.int (nI m), .ref qe] ≤ 20 then some (6, [Value.float 60, .int (nI m), .ref qe], h) else none
      | _ => none) = _
    rw [he]
    rfl
  refine xT.go hM rfl rfl rfl rfl rfl rfl (xc_stat rfl rfl ⟨rfl, Nat.le_of_ble_eq_true rfl⟩) rfl ⟨Nat.le_of_ble_eq_true rfl, Nat.le_of_ble_eq_true rfl, by decide⟩ (j_copyC (w0 := 60) he hN hcm hm rfl r1 r2) (fun v h2 hv => ?_)
  obtain ⟨rfl, hv⟩ := hv
  exact xT.ret hM rfl rfl rfl rfl (⟨_, rfl, rfl, hv⟩)
theorem c_grow (hL : c_L h qa Fa qe cap sz ef) (hsc : sz = cap) (hcap : cap ≤ 9000) (r1 : h.length + 1 ≤ e.2.2.2.1) (r2 : ab_sz h + 20000 ≤ e.2.2.2.2.1) : xT e (d + 3) 53 0 [(0, .ref qa), (1, .int (nI (sz + 1)))] [] h (fun o h' => ∃ v, o = .inl v ∧ v = some (.ref h.length) ∧ ∃ Fa' cap' ef', c_L h' qa Fa' h.length cap' sz ef' ∧ Fa'[0]? = some (.ref h.length) ∧ sz < cap' ∧ cap + 5 ≤ cap' ∧ cap' ≤ 2 * cap + 10 ∧ cap' ≤ 4 * (cap' - cap) ∧ (∀ i, i < sz → ef' i = ef i) ∧ (∀ (k : Nat) (x : ab_E), h[k]? = some x → k ≠ qa → h'[k]? = some x) ∧ h'.length = h.length + 1 ∧ ab_sz h' = ab_sz h + cap' ∧ (∀ (k : Nat) (G : List Value), h'[k]? = some (.inr (10, G)) → h[k]? = some (.inr (10, G)))) := by
  have hM : (x_mt e.1)[53]? = some xM53 := rfl
  obtain ⟨ha, la, f1, ⟨z2, f2⟩, hd, hs, hc, hN⟩ := id hL
  rcases hd with ⟨f0, rfl, rfl⟩ | ⟨f0, he, h10⟩
  · refine xT.s1 hM rfl rfl ?_
    refine xT.s2 hM rfl rfl (x2_get rfl (Or.inl rfl) ha f0) ?_
    refine xT.s2 hM rfl rfl (by rfl) ?_
    refine xT.s1 hM rfl rfl ?_
    refine xT.s1 hM rfl rfl ?_
    refine xT.s1 hM rfl rfl ?_
    refine xT.brF (by decide) ?_
    refine xT.s1 hM rfl rfl ?_
    refine xT.s2 hM rfl rfl (x2_get rfl (Or.inl rfl) ha f0) ?_
    refine xT.s4 hM rfl rfl rfl rfl rfl rfl rfl rfl rfl rfl ?_
    refine xT.s4 hM rfl rfl rfl rfl rfl rfl rfl rfl rfl rfl ?_
    refine xT.s1 hM rfl rfl ?_
    refine xT.s1 hM rfl rfl ?_
    refine xT.s1 hM rfl rfl ?_
    refine xT.go hM rfl rfl rfl rfl rfl rfl (xc_stat rfl rfl ⟨rfl, Nat.le_of_ble_eq_true rfl⟩) rfl ⟨Nat.le_of_ble_eq_true rfl, Nat.le_of_ble_eq_true rfl, by decide⟩ (j_max _ _) (fun v h2 hv => ?_)
    obtain ⟨rfl, hh2⟩ := hv
    subst h2
    rw [show (if (Int8.ofInt 10).toInt32 < nI (0 + 1) then nI (0 + 1) else (Int8.ofInt 10).toInt32) = nI 10 from by decide]
    refine xT.newa hM rfl rfl rfl rfl (by omega) (by omega) (by omega) (fun k ek w => ?_)
    have ha0 := ha
    replace ha := w.2.1 _ _ ha
    have hal := x_lt ha0
    refine xT.s1 hM rfl rfl ?_
    refine xT.put hM rfl rfl ha (Or.inl rfl) (by rw [la]; decide) (rfl) (Or.inl rfl) (fun h_1 F_1 eF1 eh1 up1 fb1 fo1 fl1 => ?_)
    replace ha := up1.1
    replace la := fl1.trans la
    replace f1 := (fo1 1 (by decide)).trans f1
    replace f2 := (fo1 2 (by decide)).trans f2
    replace f0 := fb1
    exact xT.ret hM rfl rfl rfl rfl (⟨_, rfl, rfl, _, 10, fun _ => .null, ⟨ha, la, f1, ⟨_, f2⟩, Or.inr ⟨f0, (up1.2.1 _ (by omega)).trans w.1, by omega⟩, by omega, by omega, fun i hi => absurd hi (Nat.not_lt_zero i)⟩, f0, by omega, by omega, by omega, by omega, fun i hi => absurd hi (Nat.not_lt_zero i), fun k x hk hn => (up1.2.1 k hn).trans (w.2.1 _ _ hk), by rw [up1.2.2.1, w.2.2.1], by rw [up1.2.2.2, w.2.2.2]; rfl, fun k G hk => x_rev_nw ek (by simp) (x_rev_up up1 (by simp) hk)⟩)
  · refine xT.s1 hM rfl rfl ?_
    refine xT.s2 hM rfl rfl (x2_get rfl (Or.inl rfl) ha f0) ?_
    refine xT.s2 hM rfl rfl (x2_alen he (by decide)) ?_
    refine xT.s1 hM rfl rfl ?_
    refine xT.s1 hM rfl rfl ?_
    refine xT.s1 hM rfl rfl ?_
    refine xT.brT (by have := nI_lt (a := 0) (b := cap) (by omega) (by omega); exact this) ?_
    refine xT.s1 hM rfl rfl ?_
    refine xT.s1 hM rfl rfl ?_
    refine xT.s1 hM rfl rfl ?_
    refine xT.s1 hM rfl rfl ?_
    rw [show nI (sz + 1) - nI cap = nI 1 from by rw [hsc, show cap + 1 = 1 + cap from by omega, ← nI_add 1 cap]; exact Int32.add_sub_cancel _ _]
    refine xT.s1 hM rfl rfl ?_
    refine xT.s1 hM rfl rfl ?_
    refine xT.s1 hM rfl rfl ?_
    rw [x_shr1 (by omega)]
    refine xT.go hM rfl rfl rfl rfl rfl rfl (xc_stat rfl rfl ⟨rfl, Nat.le_of_ble_eq_true rfl⟩) rfl ⟨Nat.le_of_ble_eq_true rfl, Nat.le_of_ble_eq_true rfl, by decide⟩ (j_newLength (a := cap) (b := 1) (c := cap / 2) (by omega) (by omega)) (fun v h2 hv => ?_)
    obtain ⟨rfl, hh2⟩ := hv
    subst h2
    rw [show max 1 (cap / 2) = cap / 2 from by omega]
    refine xT.s1 hM rfl rfl ?_
    refine xT.s1 hM rfl rfl ?_
    refine xT.s1 hM rfl rfl ?_
    refine xT.s2 hM rfl rfl (x2_get rfl (Or.inl rfl) ha f0) ?_
    refine xT.s1 hM rfl rfl ?_
    refine xT.go hM rfl rfl rfl rfl rfl rfl (xc_stat rfl rfl ⟨rfl, Nat.le_of_ble_eq_true rfl⟩) rfl ⟨Nat.le_of_ble_eq_true rfl, Nat.le_of_ble_eq_true rfl, by decide⟩ (j_copyO he (fun i hi => hN i (by omega)) (by omega) (by omega) (by omega) (by omega)) (fun v h2 hv => ?_)
    obtain ⟨rfl, gg, rfl, hgg⟩ := hv
    have w := x_nw_push h (.inl (5, cap + cap / 2, gg))
    have ha0 := ha
    have hal := x_lt ha0
    replace ha := w.2.1 _ _ ha
    replace he := w.2.1 _ _ he
    generalize ek : h ++ [(.inl (5, cap + cap / 2, gg) : ab_E)] = k at w ha he ⊢
    refine xT.s1 hM rfl rfl ?_
    refine xT.put hM rfl rfl ha (Or.inl rfl) (by rw [la]; decide) (rfl) (Or.inl rfl) (fun h_2 F_2 eF2 eh2 up2 fb2 fo2 fl2 => ?_)
    replace he := (up2.2.1 _ (x_neq he ha (by simp))).trans he
    replace ha := up2.1
    replace la := fl2.trans la
    replace f1 := (fo2 1 (by decide)).trans f1
    replace f2 := (fo2 2 (by decide)).trans f2
    replace f0 := fb2
    exact xT.ret hM rfl rfl rfl rfl (⟨_, rfl, rfl, _, cap + cap / 2, gg, ⟨ha, la, f1, ⟨_, f2⟩, Or.inr ⟨f0, (up2.2.1 _ (by omega)).trans w.1, by omega⟩, by omega, by omega, fun i hi => by rw [hgg i (by omega)]; exact (hN i hi).kept (fun k G hk => ⟨G, (up2.2.1 k (x_neq hk ha0 (by simp))).trans (w.2.1 _ _ hk)⟩)⟩, f0, by omega, by omega, by omega, by omega, fun i hi => hgg i (by omega), fun k x hk hn => (up2.2.1 k hn).trans (w.2.1 _ _ hk), by rw [up2.2.2.1, w.2.2.1], by rw [up2.2.2.2, w.2.2.2]; rfl, fun k G hk => x_rev_nw ek.symm (by simp) (x_rev_up up2 (by simp) hk)⟩)
theorem c_grow0 (hL : c_L h qa Fa qe cap sz ef) (hsc : sz = cap) (hcap : cap ≤ 9000) (r1 : h.length + 1 ≤ e.2.2.2.1) (r2 : ab_sz h + 20000 ≤ e.2.2.2.2.1) : xT e (d + 4) 52 0 [(0, .ref qa)] [] h (fun o h' => ∃ v, o = .inl v ∧ v = some (.ref h.length) ∧ ∃ Fa' cap' ef', c_L h' qa Fa' h.length cap' sz ef' ∧ Fa'[0]? = some (.ref h.length) ∧ sz < cap' ∧ cap + 5 ≤ cap' ∧ cap' ≤ 2 * cap + 10 ∧ cap' ≤ 4 * (cap' - cap) ∧ (∀ i, i < sz → ef' i = ef i) ∧ (∀ (k : Nat) (x : ab_E), h[k]? = some x → k ≠ qa → h'[k]? = some x) ∧ h'.length = h.length + 1 ∧ ab_sz h' = ab_sz h + cap' ∧ (∀ (k : Nat) (G : List Value), h'[k]? = some (.inr (10, G)) → h[k]? = some (.inr (10, G)))) := by
  have hM : (x_mt e.1)[52]? = some xM52 := rfl
  obtain ⟨ha, la, f1, -⟩ := id hL
  refine xT.s1 hM rfl rfl ?_
  refine xT.s1 hM rfl rfl ?_
  refine xT.s2 hM rfl rfl (x2_get rfl (Or.inl rfl) ha f1) ?_
  refine xT.s1 hM rfl rfl ?_
  refine xT.s1 hM rfl rfl ?_
  rw [show nI sz + Int32.ofInt 1 = nI (sz + 1) from nI_add sz 1]
  refine xT.go hM rfl rfl rfl rfl rfl rfl (xc_virt rfl rfl rfl ha ⟨rfl, Nat.le_of_ble_eq_true rfl, rfl, Or.inl rfl⟩) rfl ⟨Nat.le_of_ble_eq_true rfl, Nat.le_of_ble_eq_true rfl, by decide⟩ (c_grow hL hsc hcap r1 r2) (fun v h2 hv => ?_)
  obtain ⟨rfl, hv⟩ := hv
  exact xT.ret hM rfl rfl rfl rfl (⟨_, rfl, rfl, hv⟩)
end XLI
