/-! the reference: advance -/
/-- how advance ends: at the tape's end; or at what is no token; or behind a token -/
def m_co (gb : Nat → Int32) (tp f : Nat) : Bool := x_isL (x_by gb tp f) || (decide (x_by gb tp f = 34) || decide (x_by gb tp f = 39))
theorem m_co_iff {gb : Nat → Int32} {tp f : Nat} : m_co gb tp f = true ↔ x_isL (x_by gb tp f) = true ∨ x_by gb tp f = 34 ∨ x_by gb tp f = 39 := by simp [m_co]
def m_lxE (gb : Nat → Int32) (tp f : Nat) : Nat := if x_isL (x_by gb tp f) = true then m_end (m_wS gb tp) tp f else if x_by gb tp f = 34 then m_sE gb tp (f + 1) else m_qE gb tp (f + 1)
/-- how long the next token is, if its text is kept -/
def m_res (gb : Nat → Int32) (tp a : Nat) : Nat := if m_end (m_kS gb tp) tp a < tp ∧ m_co gb tp (m_end (m_kS gb tp) tp a) = true then m_lxE gb tp (m_end (m_kS gb tp) tp a) - m_end (m_kS gb tp) tp a else 0
def m_AQ (e : xE) (h0 : ab_H) (q q8 : Nat) (gb : Nat → Int32) (F0 : List Value) (tp a : Nat) (v : Option Value) (h' : ab_H) : Prop := v = none ∧ ∃ (fr' a' : Nat) (F' : List Value) (t' : Int32) (w' : Value), m_X h0 h' q q8 gb F0 F' tp fr' a' t' w' ∧ m_ok e h' t' w' ∧ a' ≤ tp + 2 ∧ fr' ≤ tp ∧ fr' ≤ a' ∧ ((t' = 0 ∧ a' = tp ∧ fr' = tp ∧ m_res gb tp a = 0) ∨ (a ≤ fr' ∧ fr' < tp ∧ t' ≠ 0 ∧ (t' = 1 ∨ fr' < a') ∧ a + m_res gb tp a ≤ a')) ∧ 8 * h'.length ≤ 8 * h0.length + 33 * m_res gb tp a ∧ h0.length ≤ h'.length ∧ ab_sz h' ≤ ab_sz h0 + 29 * m_res gb tp a
section XAD
variable {e : xE} {d q q8 tp fr : Nat} {gb : Nat → Int32} {h0 : ab_H} {F0 : List Value} {t : Int32} {w : Value}
theorem m_signIn {Q : ab_O → ab_H → Prop} {qs s n a : Nat} {sf : Nat → Value} {ws : UInt32} {cc : Int32} {F : List Value} {h : ab_H} (hE : e.1 = .null ∨ ∃ w, e.1 = .float w) (hq0 : h0[q]? = some (.inr (3, F0))) (c1 : F0[4]? = some (.ref qs)) (c3 : h0[qs]? = some (.inl (3, 12, sf))) (hs12 : s < 12) (ek : sf s = .float ws) (hks : j_str e h (.float ws) n) (hn3 : n ≤ 3) (ha : a ≤ 5000) (hX : m_X h0 h q q8 gb F0 F tp fr a t w) (K : ∀ (k : Nat) (f : Int32), xT e (d + 4) 19 186 [(4, .int (nI k)), (3, .int f), (2, .int (nI s)), (1, .int cc), (0, .ref q)] [] h Q) : ∀ (m k : Nat) (f : Int32), n - k < m → k ≤ n → xT e (d + 4) 19 139 [(4, .int (nI k)), (3, .int f), (2, .int (nI s)), (1, .int cc), (0, .ref q)] [] h Q := by
  have hM : (x_mt e.1)[19]? = some xM19 := rfl
  obtain ⟨Fk, rk, gk, kk, -⟩ := id hks
  intro m
  induction m with
  | zero => intro k f m1; omega
  | succ m ih =>
    intro k f m1 m2
    obtain ⟨⟨hq, hl, f1, f2, f6, f7, ⟨z8, f8⟩, ⟨n9, f9⟩, f10, f11, h8, htp⟩, rest, fr0⟩ := id hX
    refine xT.s1 hM rfl rfl ?_
    refine xT.s1 hM rfl rfl ?_
    refine xT.s2 hM rfl rfl (x2_get rfl (Or.inl rfl) hq ((hX.2.1 4 (by omega)).trans c1)) ?_
    refine xT.s1 hM rfl rfl ?_
    refine xT.aald hM rfl (hX.2.2 _ _ c3 (x_neq c3 hq0 (by simp))) rfl hs12 (by omega) ?_
    rw [ek]
    refine xT.go hM rfl rfl rfl rfl rfl rfl (xc_sv rfl rfl rfl kk ⟨rfl, Nat.le_of_ble_eq_true rfl, rfl⟩) rfl ⟨Nat.le_of_ble_eq_true rfl, Nat.le_of_ble_eq_true rfl, by decide⟩ (j_len hks) (fun v h2 hv => ?_)
    obtain ⟨rfl, hh2⟩ := hv
    subst h2
    refine xT.s1 hM rfl rfl ?_
    refine xT.br (fun hb => ?_) (fun hb => ?_)
    · exact K k f
    · have hkn : k < n := Nat.lt_of_not_le (fun z => hb (nI_le z (by omega)))
      refine xT.s1 hM rfl rfl ?_
      refine xT.s1 hM rfl rfl ?_
      refine xT.s2 hM rfl rfl (x2_get rfl (Or.inl rfl) hq f11) ?_
      refine xT.s1 hM rfl rfl ?_
      refine xT.s1 hM rfl rfl ?_
      rw [nI_add]
      refine xT.go hM rfl rfl rfl rfl rfl rfl (xc_virt rfl rfl rfl hq ⟨rfl, Nat.le_of_ble_eq_true rfl, rfl, Or.inl rfl⟩) rfl ⟨Nat.le_of_ble_eq_true rfl, Nat.le_of_ble_eq_true rfl, by decide⟩ (m_byteAt hX.S (k := (a + k)) (by omega)) (fun v h2 hv => ?_)
      obtain ⟨rfl, hh2⟩ := hv
      subst h2
      refine xT.s1 hM rfl rfl ?_
      refine xT.s2 hM rfl rfl (x2_get rfl (Or.inl rfl) hq ((hX.2.1 4 (by omega)).trans c1)) ?_
      refine xT.s1 hM rfl rfl ?_
      refine xT.aald hM rfl (hX.2.2 _ _ c3 (x_neq c3 hq0 (by simp))) rfl hs12 (by omega) ?_
      rw [ek]
      refine xT.s1 hM rfl rfl ?_
      refine xT.go hM rfl rfl rfl rfl rfl rfl (xc_sv rfl rfl rfl kk ⟨rfl, Nat.le_of_ble_eq_true rfl, rfl⟩) rfl ⟨Nat.le_of_ble_eq_true rfl, Nat.le_of_ble_eq_true rfl, by decide⟩ (j_charAt hE hks hkn) (fun v h2 hv => ?_)
      obtain ⟨zc, rfl, hh2⟩ := hv
      subst h2
      refine xT.s1 hM rfl rfl ?_
      refine xT.br (fun hb2 => ?_) (fun hb2 => ?_)
      · refine xT.s1 hM rfl rfl ?_
        rw [show nI k + Int32.ofInt 1 = nI (k + 1) from nI_add k 1]
        refine xT.s1 hM rfl rfl ?_
        exact ih (k + 1) _ (by omega) (by omega)
      · refine xT.s1 hM rfl rfl ?_
        refine xT.s1 hM rfl rfl ?_
        refine xT.s1 hM rfl rfl ?_
        rw [show nI k + Int32.ofInt 1 = nI (k + 1) from nI_add k 1]
        refine xT.s1 hM rfl rfl ?_
        exact ih (k + 1) _ (by omega) (by omega)
theorem m_signs {Q : ab_O → ab_H → Prop} {qs : Nat} {sf : Nat → Value} {cc : Int32} {w0 : Value} (hE : e.1 = .null ∨ ∃ w, e.1 = .float w) (hq0 : h0[q]? = some (.inr (3, F0))) (c1 : F0[4]? = some (.ref qs)) (c3 : h0[qs]? = some (.inl (3, 12, sf))) (c5 : ∀ k, k < 12 → ∃ n, 0 < n ∧ n ≤ 3 ∧ j_old e (sf k) n) (hlt : fr < 4096) (K : ∀ (F : List Value) (t : Int32) (w : Value) (a : Nat) (h : ab_H), m_X h0 h q q8 gb F0 F tp fr a t w → h.length = h0.length → ab_sz h = ab_sz h0 → ((t = 1 ∧ a = fr ∧ w = w0) ∨ (t = 9 ∧ fr < a ∧ a ≤ fr + 3 ∧ ∃ n, j_str e h w n)) → xT e (d + 4) 19 231 [(0, .ref q)] [] h Q) : ∀ (m s : Nat) (F : List Value) (t : Int32) (w : Value) (a : Nat) (h : ab_H), m_X h0 h q q8 gb F0 F tp fr a t w → h.length = h0.length → ab_sz h = ab_sz h0 → 12 - s < m → s ≤ 12 → ((t = 1 ∧ a = fr ∧ w = w0) ∨ (t = 9 ∧ fr < a ∧ a ≤ fr + 3 ∧ ∃ n, j_str e h w n)) → xT e (d + 4) 19 117 [(2, .int (nI s)), (1, .int cc), (0, .ref q)] [] h Q := by
  have hM : (x_mt e.1)[19]? = some xM19 := rfl
  intro m
  induction m with
  | zero => intro s F t w a h hX hN hZ m1; omega
  | succ m ih =>
    intro s F t w a h hX hN hZ m1 m2 hc
    obtain ⟨⟨hq, hl, f1, f2, f6, f7, ⟨z8, f8⟩, ⟨n9, f9⟩, f10, f11, h8, htp⟩, rest, fr0⟩ := id hX
    refine xT.s1 hM rfl rfl ?_
    refine xT.s1 hM rfl rfl ?_
    refine xT.s2 hM rfl rfl (x2_get rfl (Or.inl rfl) hq ((hX.2.1 4 (by omega)).trans c1)) ?_
    refine xT.s2 hM rfl rfl (x2_alen (hX.2.2 _ _ c3 (x_neq c3 hq0 (by simp))) (by decide)) ?_
    refine xT.s1 hM rfl rfl ?_
    refine xT.br (fun hb => ?_) (fun hb => ?_)
    · exact xT.weak (L := [(0, .ref q)]) ⟨by simp, by simp⟩ (K F t w a h hX hN hZ hc)
    · have hs12 : s < 12 := Nat.lt_of_not_le (fun z => hb (nI_le (b := s) z (by omega)))
      refine xT.s1 hM rfl rfl ?_
      refine xT.s2 hM rfl rfl (x2_get rfl (Or.inl rfl) hq f6) ?_
      refine xT.s1 hM rfl rfl ?_
      refine xT.s1 hM rfl rfl ?_
      refine xT.br (fun hb2 => ?_) (fun hb2 => ?_)
      · rcases hc with ⟨ht, ha, hw⟩ | ⟨ht, -⟩
        rotate_left
        · rw [ht] at hb2; exact absurd hb2 (by decide)
        obtain ⟨n, n1, n2, ho⟩ := c5 s hs12
        have hks := ho.str h
        obtain ⟨ws, wr, gs, ek, -⟩ := id ho
        rw [ek] at hks
        refine xT.s1 hM rfl rfl ?_
        refine xT.s1 hM rfl rfl ?_
        refine xT.s1 hM rfl rfl ?_
        refine xT.s1 hM rfl rfl ?_
        refine m_signIn hE hq0 c1 c3 hs12 ek hks n2 (by omega) hX (fun k f => ?_) (n + 1) 0 _ (by omega) (by omega)
        have nxt : ∀ (F : List Value) (t : Int32) (w : Value) (a : Nat) (h : ab_H), m_X h0 h q q8 gb F0 F tp fr a t w → h.length = h0.length → ab_sz h = ab_sz h0 → ((t = 1 ∧ a = fr ∧ w = w0) ∨ (t = 9 ∧ fr < a ∧ a ≤ fr + 3 ∧ ∃ n, j_str e h w n)) → xT e (d + 4) 19 225 [(4, .int (nI k)), (3, .int f), (2, .int (nI s)), (1, .int cc), (0, .ref q)] [] h Q := by
          intro F t w a h hX hN hZ hc
          refine xT.s1 hM rfl rfl ?_
          rw [show nI s + Int32.ofInt 1 = nI (s + 1) from nI_add s 1]
          refine xT.s1 hM rfl rfl ?_
          exact xT.weak (L := [(2, .int (nI (s + 1))), (1, .int cc), (0, .ref q)]) ⟨by simp [ab_put1, x_ci, x_cr, x_cf, x_cn, x_cl2], by simp [ab_put1, x_ci, x_cr, x_cf, x_cn, x_cl2]⟩ (ih (s + 1) F t w a h hX hN hZ (by omega) (by omega) hc)
        refine xT.s1 hM rfl rfl ?_
        refine xT.s1 hM rfl rfl ?_
        refine xT.br (fun hb3 => ?_) (fun hb3 => ?_)
        · refine xT.s1 hM rfl rfl ?_
          exact nxt F t w a h hX hN hZ (Or.inl ⟨ht, ha, hw⟩)
        · refine xT.s1 hM rfl rfl ?_
          refine xT.s1 hM rfl rfl ?_
          refine xT.put hM rfl rfl hq (Or.inl rfl) (by rw [hl]; decide) (rfl) (Or.inl rfl) (fun h_1 F_1 eF eh up fb fo fl => ?_)
          replace hX := hX.upd up fl (by decide) fo fb ((fo 7 (by decide)).trans f7) ⟨_, ((fo 8 (by decide)).trans f8)⟩ ⟨_, ((fo 9 (by decide)).trans f9)⟩ ((fo 10 (by decide)).trans f10) ((fo 11 (by decide)).trans f11)
          obtain ⟨⟨hq, hl, f1, f2, f6, f7, ⟨z8, f8⟩, ⟨n9, f9⟩, f10, f11, h8, htp⟩, rest, fr0⟩ := id hX
          replace hN := up.2.2.1.trans hN
          replace hZ := up.2.2.2.trans hZ
          refine xT.s1 hM rfl rfl ?_
          refine xT.s1 hM rfl rfl ?_
          refine xT.s2 hM rfl rfl (x2_get rfl (Or.inl rfl) hq ((hX.2.1 4 (by omega)).trans c1)) ?_
          refine xT.s1 hM rfl rfl ?_
          refine xT.aald hM rfl (hX.2.2 _ _ c3 (x_neq c3 hq0 (by simp))) rfl hs12 (by omega) ?_
          rw [ek]
          refine xT.put hM rfl rfl hq (Or.inl rfl) (by rw [hl]; decide) (rfl) (Or.inl rfl) (fun h_2 F_2 eF eh up fb fo fl => ?_)
          replace hX := hX.upd up fl (by decide) fo ((fo 6 (by decide)).trans f6) ((fo 7 (by decide)).trans f7) ⟨_, ((fo 8 (by decide)).trans f8)⟩ ⟨_, ((fo 9 (by decide)).trans f9)⟩ fb ((fo 11 (by decide)).trans f11)
          obtain ⟨⟨hq, hl, f1, f2, f6, f7, ⟨z8, f8⟩, ⟨n9, f9⟩, f10, f11, h8, htp⟩, rest, fr0⟩ := id hX
          replace hN := up.2.2.1.trans hN
          replace hZ := up.2.2.2.trans hZ
          refine xT.s1 hM rfl rfl ?_
          refine xT.s1 hM rfl rfl ?_
          refine xT.s2 hM rfl rfl (x2_get rfl (Or.inl rfl) hq f11) ?_
          refine xT.s1 hM rfl rfl ?_
          refine xT.s2 hM rfl rfl (x2_get rfl (Or.inl rfl) hq f10) ?_
          have hks := ho.str h_2
          rw [ek] at hks
          obtain ⟨Fk, rk, gk, kk, -⟩ := id hks
          refine xT.go hM rfl rfl rfl rfl rfl rfl (xc_sv rfl rfl rfl kk ⟨rfl, Nat.le_of_ble_eq_true rfl, rfl⟩) rfl ⟨Nat.le_of_ble_eq_true rfl, Nat.le_of_ble_eq_true rfl, by decide⟩ (j_len hks) (fun v h2 hv => ?_)
          obtain ⟨rfl, hh2⟩ := hv
          subst h2
          refine xT.s1 hM rfl rfl ?_
          rw [nI_add]
          refine xT.put hM rfl rfl hq (Or.inl rfl) (by rw [hl]; decide) (rfl) (Or.inl rfl) (fun h_3 F_3 eF eh up fb fo fl => ?_)
          replace hX := hX.upd up fl (by decide) fo ((fo 6 (by decide)).trans f6) ((fo 7 (by decide)).trans f7) ⟨_, ((fo 8 (by decide)).trans f8)⟩ ⟨_, ((fo 9 (by decide)).trans f9)⟩ ((fo 10 (by decide)).trans f10) fb
          obtain ⟨⟨hq, hl, f1, f2, f6, f7, ⟨z8, f8⟩, ⟨n9, f9⟩, f10, f11, h8, htp⟩, rest, fr0⟩ := id hX
          replace hN := up.2.2.1.trans hN
          replace hZ := up.2.2.2.trans hZ
          have hks := ho.str h_3
          rw [ek] at hks
          exact nxt _ _ _ (a + n) _ hX hN hZ (Or.inr ⟨by decide, by omega, by omega, n, hks⟩)
      · exact xT.weak (L := [(0, .ref q)]) ⟨by simp, by simp⟩ (K F t w a h hX hN hZ hc)
theorem m_advance {a : Nat} (hE : e.1 = .null ∨ ∃ w, e.1 = .float w) (hX : m_X h0 h0 q q8 gb F0 F0 tp fr a t w) (hC : m_C e h0 F0) (hw0 : w = .null ∨ ∃ n, j_str e h0 w n) (hr : x_rm e h0) (ha : a ≤ tp + 2) : xT e (d + 8) 19 0 [(0, .ref q)] [] h0 (fun o h' => ∃ v, o = .inl v ∧ m_AQ e h0 q q8 gb F0 tp a v h') := by
  have hM : (x_mt e.1)[19]? = some xM19 := rfl
  obtain ⟨⟨hq, hl, f1, f2, f6, f7, ⟨z8, f8⟩, ⟨n9, f9⟩, f10, f11, h8, htp⟩, rest, fr0⟩ := id hX
  have hq0 := hq
  obtain ⟨qs, qk, sf, kf, c1, c2, c3, c4, c5, c6⟩ := id hC
  have hN : h0.length = h0.length := rfl
  have hZ : ab_sz h0 = ab_sz h0 := rfl
  refine xT.s1 hM rfl rfl ?_
  refine xT.go hM rfl rfl rfl rfl rfl rfl (xc_virt rfl rfl rfl hq ⟨rfl, Nat.le_of_ble_eq_true rfl, rfl, Or.inl rfl⟩) rfl ⟨Nat.le_of_ble_eq_true rfl, Nat.le_of_ble_eq_true rfl, by decide⟩ (m_skip2 (tp + 3 - a) a F0 h0 hX hN hZ (by omega) ha) (fun v h2 hv => ?_)
  obtain ⟨rfl, F1, hX1, hN1, hZ1, l2⟩ := hv
  have l1 := m_end_ge (m_kS_st gb tp) a
  have hres : m_res gb tp a = m_res gb tp a := rfl
  conv at hres => rhs; unfold m_res
  generalize m_end (m_kS gb tp) tp a = a1 at hX1 l1 l2 hres
  replace hX := hX1
  replace hN := hN1
  replace hZ := hZ1
  obtain ⟨⟨hq, hl, f1, f2, f6, f7, ⟨z8, f8⟩, ⟨n9, f9⟩, f10, f11, h8, htp⟩, rest, fr0⟩ := id hX
  refine xT.s1 hM rfl rfl ?_
  refine xT.s1 hM rfl rfl ?_
  refine xT.s2 hM rfl rfl (x2_get rfl (Or.inl rfl) hq f11) ?_
  refine xT.put hM rfl rfl hq (Or.inl rfl) (by rw [hl]; decide) (rfl) (Or.inl rfl) (fun h_1 F_1 eF eh up fb fo fl => ?_)
  replace hX := hX.upd up fl (by decide) fo ((fo 6 (by decide)).trans f6) fb ⟨_, ((fo 8 (by decide)).trans f8)⟩ ⟨_, ((fo 9 (by decide)).trans f9)⟩ ((fo 10 (by decide)).trans f10) ((fo 11 (by decide)).trans f11)
  obtain ⟨⟨hq, hl, f1, f2, f6, f7, ⟨z8, f8⟩, ⟨n9, f9⟩, f10, f11, h8, htp⟩, rest, fr0⟩ := id hX
  replace hN := up.2.2.1.trans hN
  replace hZ := up.2.2.2.trans hZ
  refine xT.s1 hM rfl rfl ?_
  refine xT.s2 hM rfl rfl (x2_get rfl (Or.inl rfl) hq f11) ?_
  refine xT.s1 hM rfl rfl ?_
  refine xT.s2 hM rfl rfl (x2_get rfl (Or.inl rfl) hq f2) ?_
  refine xT.s1 hM rfl rfl ?_
  refine xT.br (fun hb => ?_) (fun hb => ?_)
  · have hlt : a1 < tp := (nI_ltI (by omega) (by omega)).mp hb
    have fin : ∀ (ea : Nat) (v : Option Value) (h' : ab_H), m_co gb tp a1 = true → m_lxE gb tp a1 = ea → m_LQ e h0 q q8 gb F0 tp a1 ea v h' → xT e (d + 8) 19 231 [(0, .ref q)] [] h' (fun o h' => ∃ v, o = .inl v ∧ m_AQ e h0 q q8 gb F0 tp a v h') := by
      intro ea v h' hco hea hv
      rw [if_pos ⟨hlt, hco⟩, hea] at hres
      obtain ⟨-, y1, y2, F', t', w', hX, y3, y4, y5, y6, y7⟩ := hv
      obtain ⟨⟨hq, hl, f1, f2, f6, f7, ⟨z8, f8⟩, ⟨n9, f9⟩, f10, f11, h8, htp⟩, rest, fr0⟩ := id hX
      have hq1 := hq
      refine xT.s1 hM rfl rfl ?_
      refine xT.s1 hM rfl rfl ?_
      refine xT.s2 hM rfl rfl (x2_get rfl (Or.inl rfl) hq f11) ?_
      refine xT.put hM rfl rfl hq (Or.inl rfl) (by rw [hl]; decide) (rfl) (Or.inl rfl) (fun h_2 F_2 eF eh up fb fo fl => ?_)
      replace hX := hX.upd up fl (by decide) fo ((fo 6 (by decide)).trans f6) ((fo 7 (by decide)).trans f7) ⟨_, fb⟩ ⟨_, ((fo 9 (by decide)).trans f9)⟩ ((fo 10 (by decide)).trans f10) ((fo 11 (by decide)).trans f11)
      obtain ⟨⟨hq, hl, f1, f2, f6, f7, ⟨z8, f8⟩, ⟨n9, f9⟩, f10, f11, h8, htp⟩, rest, fr0⟩ := id hX
      have ok2 : m_ok e h_2 t' w' := ⟨by
        rcases y3.1 with z | ⟨z, n, zz⟩
        · exact Or.inl z
        · exact Or.inr ⟨z, n, zz.kept (fun k x hk hn => (up.2.1 k hn).trans hk) hq1 (by decide)⟩, by
        rcases y3.2.1 with z | ⟨n, zz⟩
        · exact Or.inl z
        · exact Or.inr ⟨n, zz.kept (fun k x hk hn => (up.2.1 k hn).trans hk) hq1 (by decide)⟩, y3.2.2⟩
      exact xT.ret hM rfl rfl rfl rfl ⟨_, rfl, rfl, a1, ea, _, t', w', hX, ok2, by omega, by omega, by omega, Or.inr ⟨l1, hlt, y4, Or.inr y1, by rw [hres]; omega⟩, by rw [up.2.2.1, hres]; omega, by rw [up.2.2.1]; exact y6, by rw [up.2.2.2, hres]; omega⟩
    refine xT.s1 hM rfl rfl ?_
    refine xT.s1 hM rfl rfl ?_
    refine xT.s2 hM rfl rfl (x2_get rfl (Or.inl rfl) hq f11) ?_
    refine xT.go hM rfl rfl rfl rfl rfl rfl (xc_virt rfl rfl rfl hq ⟨rfl, Nat.le_of_ble_eq_true rfl, rfl, Or.inl rfl⟩) rfl ⟨Nat.le_of_ble_eq_true rfl, Nat.le_of_ble_eq_true rfl, by decide⟩ (m_byteAt hX.S (k := a1) (by omega)) (fun v h2 hv => ?_)
    obtain ⟨rfl, hh2⟩ := hv
    subst h2
    refine xT.s1 hM rfl rfl ?_
    refine xT.s1 hM rfl rfl ?_
    refine xT.s1 hM rfl rfl ?_
    refine xT.go hM rfl rfl rfl rfl rfl rfl (xc_virt rfl rfl rfl hq ⟨rfl, Nat.le_of_ble_eq_true rfl, rfl, Or.inl rfl⟩) rfl ⟨Nat.le_of_ble_eq_true rfl, Nat.le_of_ble_eq_true rfl, by decide⟩ (m_letter _) (fun v h2 hv => ?_)
    obtain ⟨rfl, hh2⟩ := hv
    subst h2
    refine xT.s1 hM rfl rfl ?_
    refine xT.br (fun hb2 => ?_) (fun hb2 => ?_)
    · refine xT.s1 hM rfl rfl ?_
      refine xT.s1 hM rfl rfl ?_
      refine xT.go hM rfl rfl rfl rfl rfl rfl (xc_virt rfl rfl rfl hq ⟨rfl, Nat.le_of_ble_eq_true rfl, rfl, Or.inl rfl⟩) rfl ⟨Nat.le_of_ble_eq_true rfl, Nat.le_of_ble_eq_true rfl, by decide⟩ (m_digit _) (fun v h2 hv => ?_)
      obtain ⟨rfl, hh2⟩ := hv
      subst h2
      refine xT.s1 hM rfl rfl ?_
      refine xT.br (fun hb3 => ?_) (fun hb3 => ?_)
      · refine xT.s1 hM rfl rfl ?_
        refine xT.s1 hM rfl rfl ?_
        refine xT.s1 hM rfl rfl ?_
        refine xT.br (fun hb4 => ?_) (fun hb4 => ?_)
        · rw [show (Int8.ofInt 34).toInt32 = 34 from by decide] at hb4
          refine xT.s1 hM rfl rfl ?_
          refine xT.go hM rfl rfl rfl rfl rfl rfl (xc_virt rfl rfl rfl hq ⟨rfl, Nat.le_of_ble_eq_true rfl, rfl, Or.inl rfl⟩) rfl ⟨Nat.le_of_ble_eq_true rfl, Nat.le_of_ble_eq_true rfl, by decide⟩ (m_strings hX hN hZ hq0 hw0 hr hlt) (fun v h2 hv => ?_)
          have hv0 := hv.1
          subst hv0
          refine xT.s1 hM rfl rfl ?_
          exact xT.weak (L := [(0, .ref q)]) ⟨by simp [ab_put1, x_ci, x_cr, x_cf, x_cn, x_cl2], by simp [ab_put1, x_ci, x_cr, x_cf, x_cn, x_cl2]⟩ (fin _ _ _ (m_co_iff.mpr (Or.inr (Or.inl hb4))) (by unfold m_lxE; rw [if_neg (x_b00 hb2), if_pos hb4]) hv)
        · rw [show (Int8.ofInt 34).toInt32 = 34 from by decide] at hb4
          refine xT.s1 hM rfl rfl ?_
          refine xT.s1 hM rfl rfl ?_
          refine xT.s1 hM rfl rfl ?_
          refine xT.br (fun hb5 => ?_) (fun hb5 => ?_)
          · rw [show (Int8.ofInt 39).toInt32 = 39 from by decide] at hb5
            refine xT.s1 hM rfl rfl ?_
            refine xT.go hM rfl rfl rfl rfl rfl rfl (xc_virt rfl rfl rfl hq ⟨rfl, Nat.le_of_ble_eq_true rfl, rfl, Or.inl rfl⟩) rfl ⟨Nat.le_of_ble_eq_true rfl, Nat.le_of_ble_eq_true rfl, by decide⟩ (m_quoted hX hN hZ hq0 hw0 hr hlt) (fun v h2 hv => ?_)
            have hv0 := hv.1
            subst hv0
            refine xT.s1 hM rfl rfl ?_
            exact xT.weak (L := [(0, .ref q)]) ⟨by simp [ab_put1, x_ci, x_cr, x_cf, x_cn, x_cl2], by simp [ab_put1, x_ci, x_cr, x_cf, x_cn, x_cl2]⟩ (fin _ _ _ (m_co_iff.mpr (Or.inr (Or.inr hb5))) (by unfold m_lxE; rw [if_neg (x_b00 hb2), if_neg hb4]) hv)
          · rw [show (Int8.ofInt 39).toInt32 = 39 from by decide] at hb5
            have hnc : ¬ m_co gb tp a1 = true := fun z => by
              rcases m_co_iff.mp z with z | z | z
              · exact x_b00 hb2 z
              · exact hb4 z
              · exact hb5 z
            rw [if_neg (fun z => hnc z.2)] at hres
            refine xT.s1 hM rfl rfl ?_
            refine xT.s1 hM rfl rfl ?_
            refine xT.put hM rfl rfl hq (Or.inl rfl) (by rw [hl]; decide) (rfl) (Or.inl rfl) (fun h_3 F_3 eF eh up fb fo fl => ?_)
            replace hX := hX.upd up fl (by decide) fo fb ((fo 7 (by decide)).trans f7) ⟨_, ((fo 8 (by decide)).trans f8)⟩ ⟨_, ((fo 9 (by decide)).trans f9)⟩ ((fo 10 (by decide)).trans f10) ((fo 11 (by decide)).trans f11)
            obtain ⟨⟨hq, hl, f1, f2, f6, f7, ⟨z8, f8⟩, ⟨n9, f9⟩, f10, f11, h8, htp⟩, rest, fr0⟩ := id hX
            replace hN := up.2.2.1.trans hN
            replace hZ := up.2.2.2.trans hZ
            refine xT.s1 hM rfl rfl ?_
            refine xT.s1 hM rfl rfl ?_
            refine m_signs (d := d + 4) (w0 := w) hE hq0 c1 c3 c5 (by omega) (fun F t w' a' h hX hN hZ hc => ?_) 13 0 _ _ _ _ _ hX hN hZ (by omega) (by omega) (Or.inl ⟨by decide, rfl, rfl⟩)
            obtain ⟨⟨hq, hl, f1, f2, f6, f7, ⟨z8, f8⟩, ⟨n9, f9⟩, f10, f11, h8, htp⟩, rest, fr0⟩ := id hX
            have hq1 := hq
            refine xT.s1 hM rfl rfl ?_
            refine xT.s1 hM rfl rfl ?_
            refine xT.s2 hM rfl rfl (x2_get rfl (Or.inl rfl) hq f11) ?_
            refine xT.put hM rfl rfl hq (Or.inl rfl) (by rw [hl]; decide) (rfl) (Or.inl rfl) (fun h_4 F_4 eF eh up fb fo fl => ?_)
            replace hX := hX.upd up fl (by decide) fo ((fo 6 (by decide)).trans f6) ((fo 7 (by decide)).trans f7) ⟨_, fb⟩ ⟨_, ((fo 9 (by decide)).trans f9)⟩ ((fo 10 (by decide)).trans f10) ((fo 11 (by decide)).trans f11)
            obtain ⟨⟨hq, hl, f1, f2, f6, f7, ⟨z8, f8⟩, ⟨n9, f9⟩, f10, f11, h8, htp⟩, rest, fr0⟩ := id hX
            replace hN := up.2.2.1.trans hN
            replace hZ := up.2.2.2.trans hZ
            rcases hc with ⟨z1, z2, z3⟩ | ⟨z1, z2, z3, n, z4⟩
            · have hw1 : w' = .null ∨ ∃ n, j_str e h0 w' n := by rw [z3]; exact hw0
              exact xT.ret hM rfl rfl rfl rfl ⟨_, rfl, rfl, a1, a', _, t, w', hX, ⟨Or.inl (Or.inr (Or.inl z1)), x_w0 hX hq0 hw1, fun z => absurd (z1.symm.trans z) (by decide)⟩, by omega, by omega, by omega, Or.inr ⟨l1, hlt, by rw [z1]; decide, Or.inl z1, by omega⟩, by omega, by omega, by omega⟩
            · have z5 := z4.kept (fun k x hk hn => (up.2.1 k hn).trans hk) hq1 (by decide)
              exact xT.ret hM rfl rfl rfl rfl ⟨_, rfl, rfl, a1, a', _, t, w', hX, ⟨Or.inr ⟨by rw [z1]; decide, n, z5⟩, Or.inr ⟨n, z5⟩, fun z => absurd (z1.symm.trans z) (by decide)⟩, by omega, by omega, by omega, Or.inr ⟨l1, hlt, by rw [z1]; decide, Or.inr z2, by omega⟩, by omega, by omega, by omega⟩
      · have hnL := x_b00 hb2
        have hD := x_b01 hb3
        have hnc : ¬ m_co gb tp a1 = true := fun z => by
          rcases m_co_iff.mp z with z | z | z
          · exact hnL z
          · rw [z] at hD; exact absurd hD (by decide)
          · rw [z] at hD; exact absurd hD (by decide)
        rw [if_neg (fun z => hnc z.2)] at hres
        refine xT.s1 hM rfl rfl ?_
        refine xT.go hM rfl rfl rfl rfl rfl rfl (xc_virt rfl rfl rfl hq ⟨rfl, Nat.le_of_ble_eq_true rfl, rfl, Or.inl rfl⟩) rfl ⟨Nat.le_of_ble_eq_true rfl, Nat.le_of_ble_eq_true rfl, by decide⟩ (m_num hX hN hZ hq0 hw0 hr hlt hD) (fun v h2 hv => ?_)
        obtain ⟨rfl, a', F', t', hX, y1, y2, y3, y4, y5⟩ := hv
        obtain ⟨⟨hq, hl, f1, f2, f6, f7, ⟨z8, f8⟩, ⟨n9, f9⟩, f10, f11, h8, htp⟩, rest, fr0⟩ := id hX
        refine xT.s1 hM rfl rfl ?_
        refine xT.weak (L := [(0, .ref q)]) ⟨by simp [ab_put1, x_ci, x_cr, x_cf, x_cn, x_cl2], by simp [ab_put1, x_ci, x_cr, x_cf, x_cn, x_cl2]⟩ ?_
        refine xT.s1 hM rfl rfl ?_
        refine xT.s1 hM rfl rfl ?_
        refine xT.s2 hM rfl rfl (x2_get rfl (Or.inl rfl) hq f11) ?_
        refine xT.put hM rfl rfl hq (Or.inl rfl) (by rw [hl]; decide) (rfl) (Or.inl rfl) (fun h_5 F_5 eF eh up fb fo fl => ?_)
        replace hX := hX.upd up fl (by decide) fo ((fo 6 (by decide)).trans f6) ((fo 7 (by decide)).trans f7) ⟨_, fb⟩ ⟨_, ((fo 9 (by decide)).trans f9)⟩ ((fo 10 (by decide)).trans f10) ((fo 11 (by decide)).trans f11)
        obtain ⟨⟨hq, hl, f1, f2, f6, f7, ⟨z8, f8⟩, ⟨n9, f9⟩, f10, f11, h8, htp⟩, rest, fr0⟩ := id hX
        exact xT.ret hM rfl rfl rfl rfl ⟨_, rfl, rfl, a1, a', _, t', w, hX, ⟨Or.inl (Or.inr y3), x_w0 hX hq0 hw0, fun z => by rcases y3 with y | y <;> (rw [y] at z; exact absurd z (by decide))⟩, by omega, by omega, by omega, Or.inr ⟨l1, hlt, by rcases y3 with z | z <;> (rw [z]; decide), Or.inr y1, by omega⟩, by rw [up.2.2.1]; omega, by rw [up.2.2.1]; omega, by rw [up.2.2.2]; omega⟩
    · refine xT.s1 hM rfl rfl ?_
      refine xT.go hM rfl rfl rfl rfl rfl rfl (xc_virt rfl rfl rfl hq ⟨rfl, Nat.le_of_ble_eq_true rfl, rfl, Or.inl rfl⟩) rfl ⟨Nat.le_of_ble_eq_true rfl, Nat.le_of_ble_eq_true rfl, by decide⟩ (m_words hX hN hZ hq0 hC hr hlt (x_b01 hb2)) (fun v h2 hv => ?_)
      have hv0 := hv.1
      subst hv0
      refine xT.s1 hM rfl rfl ?_
      exact xT.weak (L := [(0, .ref q)]) ⟨by simp [ab_put1, x_ci, x_cr, x_cf, x_cn, x_cl2], by simp [ab_put1, x_ci, x_cr, x_cf, x_cn, x_cl2]⟩ (fin _ _ _ (m_co_iff.mpr (Or.inl (x_b01 hb2))) (by unfold m_lxE; rw [if_pos (x_b01 hb2)]) hv)
  · have hge : tp ≤ a1 := Nat.le_of_not_lt (fun z => hb (nI_lt z (by omega)))
    rw [if_neg (fun z => by omega)] at hres
    refine xT.s1 hM rfl rfl ?_
    refine xT.s1 hM rfl rfl ?_
    refine xT.s2 hM rfl rfl (x2_get rfl (Or.inl rfl) hq f2) ?_
    refine xT.put hM rfl rfl hq (Or.inl rfl) (by rw [hl]; decide) (rfl) (Or.inl rfl) (fun h_6 F_6 eF eh up fb fo fl => ?_)
    replace hX := hX.upd up fl (by decide) fo ((fo 6 (by decide)).trans f6) ((fo 7 (by decide)).trans f7) ⟨_, ((fo 8 (by decide)).trans f8)⟩ ⟨_, ((fo 9 (by decide)).trans f9)⟩ ((fo 10 (by decide)).trans f10) fb
    obtain ⟨⟨hq, hl, f1, f2, f6, f7, ⟨z8, f8⟩, ⟨n9, f9⟩, f10, f11, h8, htp⟩, rest, fr0⟩ := id hX
    replace hN := up.2.2.1.trans hN
    replace hZ := up.2.2.2.trans hZ
    refine xT.s1 hM rfl rfl ?_
    refine xT.s1 hM rfl rfl ?_
    refine xT.s2 hM rfl rfl (x2_get rfl (Or.inl rfl) hq f2) ?_
    refine xT.put hM rfl rfl hq (Or.inl rfl) (by rw [hl]; decide) (rfl) (Or.inl rfl) (fun h_7 F_7 eF eh up fb fo fl => ?_)
    replace hX := hX.upd up fl (by decide) fo ((fo 6 (by decide)).trans f6) fb ⟨_, ((fo 8 (by decide)).trans f8)⟩ ⟨_, ((fo 9 (by decide)).trans f9)⟩ ((fo 10 (by decide)).trans f10) ((fo 11 (by decide)).trans f11)
    obtain ⟨⟨hq, hl, f1, f2, f6, f7, ⟨z8, f8⟩, ⟨n9, f9⟩, f10, f11, h8, htp⟩, rest, fr0⟩ := id hX
    replace hN := up.2.2.1.trans hN
    replace hZ := up.2.2.2.trans hZ
    refine xT.s1 hM rfl rfl ?_
    refine xT.s1 hM rfl rfl ?_
    refine xT.put hM rfl rfl hq (Or.inl rfl) (by rw [hl]; decide) (rfl) (Or.inl rfl) (fun h_8 F_8 eF eh up fb fo fl => ?_)
    replace hX := hX.upd up fl (by decide) fo fb ((fo 7 (by decide)).trans f7) ⟨_, ((fo 8 (by decide)).trans f8)⟩ ⟨_, ((fo 9 (by decide)).trans f9)⟩ ((fo 10 (by decide)).trans f10) ((fo 11 (by decide)).trans f11)
    obtain ⟨⟨hq, hl, f1, f2, f6, f7, ⟨z8, f8⟩, ⟨n9, f9⟩, f10, f11, h8, htp⟩, rest, fr0⟩ := id hX
    replace hN := up.2.2.1.trans hN
    replace hZ := up.2.2.2.trans hZ
    exact xT.ret hM rfl rfl rfl rfl ⟨_, rfl, rfl, tp, tp, _, _, w, hX, ⟨Or.inl (Or.inl (by decide)), x_w0 hX hq0 hw0, fun z => absurd z (by decide)⟩, by omega, by omega, by omega, Or.inl ⟨by decide, rfl, rfl, hres⟩, by omega, by omega, by omega⟩
end XAD
