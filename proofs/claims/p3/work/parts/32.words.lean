/-! the reference: words -/
/-- how a token's reader ends, at ea -/
def m_LQ (e : xE) (h0 : ab_H) (q q8 : Nat) (gb : Nat → Int32) (F0 : List Value) (tp fr ea : Nat) (v : Option Value) (h' : ab_H) : Prop := v = none ∧ fr < ea ∧ ea ≤ tp + 2 ∧ ∃ (F' : List Value) (t' : Int32) (w' : Value), m_X h0 h' q q8 gb F0 F' tp fr ea t' w' ∧ m_ok e h' t' w' ∧ t' ≠ 0 ∧ 8 * h'.length ≤ 8 * h0.length + 32 + (ea - fr) ∧ h0.length ≤ h'.length ∧ ab_sz h' ≤ ab_sz h0 + 24 + 5 * (ea - fr)
def m_wC (gb : Nat → Int32) (tp i : Nat) : Bool := x_isL (x_by gb tp i) || x_isD (x_by gb tp i) || (decide (x_by gb tp i = 45) && (x_isL (x_by gb tp (i + 1)) || x_isD (x_by gb tp (i + 1))))
def m_wS (gb : Nat → Int32) (tp a : Nat) : Option Nat := if a < tp ∧ m_wC gb tp a = true then some (a + 1) else none
theorem m_wS_st (gb : Nat → Int32) (tp : Nat) : m_st (m_wS gb tp) tp := fun a b h => by
  unfold m_wS at h
  split at h
  · rename_i hc; cases h; omega
  · cases h
theorem m_wS_le {gb : Nat → Int32} {tp : Nat} : ∀ a b, m_wS gb tp a = some b → b ≤ tp := fun a b h => by
  unfold m_wS at h
  split at h
  · rename_i hc; cases h; omega
  · cases h
section XWD
variable {e : xE} {d q q8 tp fr : Nat} {gb : Nat → Int32} {h0 : ab_H} {F0 : List Value} {t : Int32} {w : Value}
theorem m_wordLoop {Q : ab_O → ab_H → Prop} : ∀ (m a : Nat) (F : List Value) (h : ab_H), m_X h0 h q q8 gb F0 F tp fr a t w → h.length = h0.length → ab_sz h = ab_sz h0 → tp - a < m → a ≤ tp → (∀ (F' : List Value) (h' : ab_H), m_X h0 h' q q8 gb F0 F' tp fr (m_end (m_wS gb tp) tp a) t w → h'.length = h0.length → ab_sz h' = ab_sz h0 → xT e (d + 7) 20 90 [(0, .ref q)] [] h' Q) → xT e (d + 7) 20 0 [(0, .ref q)] [] h Q := by
  have hM : (x_mt e.1)[20]? = some xM20 := rfl
  intro m
  induction m with
  | zero => intro a F h hX hN hZ m1; omega
  | succ m ih =>
    intro a F h hX hN hZ m1 m2 k
    obtain ⟨⟨hq, hl, f1, f2, f6, f7, ⟨z8, f8⟩, ⟨n9, f9⟩, f10, f11, h8, htp⟩, rest, fr0⟩ := id hX
    have stop : ¬ m_wC gb tp a = true → xT e (d + 7) 20 90 [(0, .ref q)] [] h Q := fun z => k F h (by rw [m_end_n (show m_wS gb tp a = none from by unfold m_wS; rw [if_neg (fun y => z y.2)])]; exact hX) hN hZ
    have step : a < tp → m_wC gb tp a = true → xT e (d + 7) 20 77 [(0, .ref q)] [] h Q := by
      intro hlt hc
      have hz : m_wS gb tp a = some (a + 1) := by unfold m_wS; rw [if_pos ⟨hlt, hc⟩]
      refine xT.s1 hM rfl rfl ?_
      refine xT.s1 hM rfl rfl ?_
      refine xT.s2 hM rfl rfl (x2_get rfl (Or.inl rfl) hq f11) ?_
      refine xT.s1 hM rfl rfl ?_
      refine xT.s1 hM rfl rfl ?_
      rw [show nI a + Int32.ofInt 1 = nI (a + 1) from nI_add a 1]
      refine xT.put hM rfl rfl hq (Or.inl rfl) (by rw [hl]; decide) (rfl) (Or.inl rfl) (fun h_1 F_1 eF eh up fb fo fl => ?_)
      replace hX := hX.upd up fl (by decide) fo ((fo 6 (by decide)).trans f6) ((fo 7 (by decide)).trans f7) ⟨_, ((fo 8 (by decide)).trans f8)⟩ ⟨_, ((fo 9 (by decide)).trans f9)⟩ ((fo 10 (by decide)).trans f10) fb
      obtain ⟨⟨hq, hl, f1, f2, f6, f7, ⟨z8, f8⟩, ⟨n9, f9⟩, f10, f11, h8, htp⟩, rest, fr0⟩ := id hX
      replace hN := up.2.2.1.trans hN
      replace hZ := up.2.2.2.trans hZ
      refine xT.s1 hM rfl rfl ?_
      exact ih (a + 1) _ _ hX hN hZ (by omega) (by omega) (fun F' h' w1 w2 w3 => k F' h' (by rw [m_end_s (m_wS_st gb tp) hz]; exact w1) w2 w3)
    refine xT.s1 hM rfl rfl ?_
    refine xT.s1 hM rfl rfl ?_
    refine xT.s1 hM rfl rfl ?_
    refine xT.s2 hM rfl rfl (x2_get rfl (Or.inl rfl) hq f11) ?_
    refine xT.go hM rfl rfl rfl rfl rfl rfl (xc_virt rfl rfl rfl hq ⟨rfl, Nat.le_of_ble_eq_true rfl, rfl, Or.inl rfl⟩) rfl ⟨Nat.le_of_ble_eq_true rfl, Nat.le_of_ble_eq_true rfl, by decide⟩ (m_byteAt hX.S (k := a) (by omega)) (fun v h2 hv => ?_)
    obtain ⟨rfl, hh2⟩ := hv
    subst h2
    refine xT.go hM rfl rfl rfl rfl rfl rfl (xc_virt rfl rfl rfl hq ⟨rfl, Nat.le_of_ble_eq_true rfl, rfl, Or.inl rfl⟩) rfl ⟨Nat.le_of_ble_eq_true rfl, Nat.le_of_ble_eq_true rfl, by decide⟩ (m_letter _) (fun v h2 hv => ?_)
    obtain ⟨rfl, hh2⟩ := hv
    subst h2
    refine xT.s1 hM rfl rfl ?_
    refine xT.br (fun hb => ?_) (fun hb => ?_)
    · have hL := x_b00 hb
      refine xT.s1 hM rfl rfl ?_
      refine xT.s1 hM rfl rfl ?_
      refine xT.s1 hM rfl rfl ?_
      refine xT.s2 hM rfl rfl (x2_get rfl (Or.inl rfl) hq f11) ?_
      refine xT.go hM rfl rfl rfl rfl rfl rfl (xc_virt rfl rfl rfl hq ⟨rfl, Nat.le_of_ble_eq_true rfl, rfl, Or.inl rfl⟩) rfl ⟨Nat.le_of_ble_eq_true rfl, Nat.le_of_ble_eq_true rfl, by decide⟩ (m_byteAt hX.S (k := a) (by omega)) (fun v h2 hv => ?_)
      obtain ⟨rfl, hh2⟩ := hv
      subst h2
      refine xT.go hM rfl rfl rfl rfl rfl rfl (xc_virt rfl rfl rfl hq ⟨rfl, Nat.le_of_ble_eq_true rfl, rfl, Or.inl rfl⟩) rfl ⟨Nat.le_of_ble_eq_true rfl, Nat.le_of_ble_eq_true rfl, by decide⟩ (m_digit _) (fun v h2 hv => ?_)
      obtain ⟨rfl, hh2⟩ := hv
      subst h2
      refine xT.s1 hM rfl rfl ?_
      refine xT.br (fun hb2 => ?_) (fun hb2 => ?_)
      · have hD := x_b00 hb2
        refine xT.s1 hM rfl rfl ?_
        refine xT.s1 hM rfl rfl ?_
        refine xT.s2 hM rfl rfl (x2_get rfl (Or.inl rfl) hq f11) ?_
        refine xT.go hM rfl rfl rfl rfl rfl rfl (xc_virt rfl rfl rfl hq ⟨rfl, Nat.le_of_ble_eq_true rfl, rfl, Or.inl rfl⟩) rfl ⟨Nat.le_of_ble_eq_true rfl, Nat.le_of_ble_eq_true rfl, by decide⟩ (m_byteAt hX.S (k := a) (by omega)) (fun v h2 hv => ?_)
        obtain ⟨rfl, hh2⟩ := hv
        subst h2
        refine xT.s1 hM rfl rfl ?_
        refine xT.s1 hM rfl rfl ?_
        refine xT.br (fun hb3 => ?_) (fun hb3 => ?_)
        · rw [show (Int8.ofInt 45).toInt32 = 45 from by decide] at hb3
          have hin : a < tp := x_byIn (fun z => by rw [z] at hb3; exact absurd hb3 (by decide))
          refine xT.s1 hM rfl rfl ?_
          refine xT.s1 hM rfl rfl ?_
          refine xT.s1 hM rfl rfl ?_
          refine xT.s2 hM rfl rfl (x2_get rfl (Or.inl rfl) hq f11) ?_
          refine xT.s1 hM rfl rfl ?_
          refine xT.s1 hM rfl rfl ?_
          rw [show nI a + Int32.ofInt 1 = nI (a + 1) from nI_add a 1]
          refine xT.go hM rfl rfl rfl rfl rfl rfl (xc_virt rfl rfl rfl hq ⟨rfl, Nat.le_of_ble_eq_true rfl, rfl, Or.inl rfl⟩) rfl ⟨Nat.le_of_ble_eq_true rfl, Nat.le_of_ble_eq_true rfl, by decide⟩ (m_byteAt hX.S (k := (a + 1)) (by omega)) (fun v h2 hv => ?_)
          obtain ⟨rfl, hh2⟩ := hv
          subst h2
          refine xT.go hM rfl rfl rfl rfl rfl rfl (xc_virt rfl rfl rfl hq ⟨rfl, Nat.le_of_ble_eq_true rfl, rfl, Or.inl rfl⟩) rfl ⟨Nat.le_of_ble_eq_true rfl, Nat.le_of_ble_eq_true rfl, by decide⟩ (m_letter _) (fun v h2 hv => ?_)
          obtain ⟨rfl, hh2⟩ := hv
          subst h2
          refine xT.s1 hM rfl rfl ?_
          refine xT.br (fun hb4 => ?_) (fun hb4 => ?_)
          · refine xT.s1 hM rfl rfl ?_
            refine xT.s1 hM rfl rfl ?_
            refine xT.s1 hM rfl rfl ?_
            refine xT.s2 hM rfl rfl (x2_get rfl (Or.inl rfl) hq f11) ?_
            refine xT.s1 hM rfl rfl ?_
            refine xT.s1 hM rfl rfl ?_
            rw [show nI a + Int32.ofInt 1 = nI (a + 1) from nI_add a 1]
            refine xT.go hM rfl rfl rfl rfl rfl rfl (xc_virt rfl rfl rfl hq ⟨rfl, Nat.le_of_ble_eq_true rfl, rfl, Or.inl rfl⟩) rfl ⟨Nat.le_of_ble_eq_true rfl, Nat.le_of_ble_eq_true rfl, by decide⟩ (m_byteAt hX.S (k := (a + 1)) (by omega)) (fun v h2 hv => ?_)
            obtain ⟨rfl, hh2⟩ := hv
            subst h2
            refine xT.go hM rfl rfl rfl rfl rfl rfl (xc_virt rfl rfl rfl hq ⟨rfl, Nat.le_of_ble_eq_true rfl, rfl, Or.inl rfl⟩) rfl ⟨Nat.le_of_ble_eq_true rfl, Nat.le_of_ble_eq_true rfl, by decide⟩ (m_digit _) (fun v h2 hv => ?_)
            obtain ⟨rfl, hh2⟩ := hv
            subst h2
            refine xT.s1 hM rfl rfl ?_
            refine xT.br (fun hb5 => ?_) (fun hb5 => ?_)
            · exact stop (by simp [m_wC, hL, hD, x_b00 hb4, x_b00 hb5])
            · exact step hin (by simp [m_wC, hb3, x_b01 hb5])
          · exact step hin (by simp [m_wC, hb3, x_b01 hb4])
        · exact stop (by rw [show (Int8.ofInt 45).toInt32 = 45 from by decide] at hb3; simp [m_wC, hL, hD, hb3])
      · exact step (x_isD_by (x_b01 hb2)) (by simp [m_wC, x_b01 hb2])
    · exact step (x_isL_by (x_b01 hb)) (by simp [m_wC, x_b01 hb])
theorem m_keptLoop {a qk : Nat} {kf : Nat → Value} {ws : Value} (hq0 : h0[q]? = some (.inr (3, F0))) (c40 : h0[qk]? = some (.inl (3, 35, kf))) (c6 : ∀ k, k < 35 → ∃ n, j_old e (kf k) n) (hws : ∃ s, ws = .ref s) (hfa : fr < a) (hat : a ≤ tp) : ∀ (m i : Nat) (F : List Value) (t : Int32) (h : ab_H), m_X h0 h q q8 gb F0 F tp fr a t ws → (8 * h.length ≤ 8 * h0.length + 32 + (a - fr) ∧ h0.length ≤ h.length) → ab_sz h ≤ ab_sz h0 + 24 + 5 * (a - fr) → 35 - i < m → i ≤ 35 → (t = 2 ∨ t = 3 ∨ t = 4) → (∃ n, j_str e h ws n) → xT e (d + 7) 20 138 [(3, .int (nI i)), (2, .int (nI 35)), (1, .ref qk), (0, .ref q)] [] h (fun o h' => ∃ v, o = .inl v ∧ m_LQ e h0 q q8 gb F0 tp fr a v h') := by
  have hM : (x_mt e.1)[20]? = some xM20 := rfl
  intro m
  induction m with
  | zero => intro i F t h hX hN hZ m1; omega
  | succ m ih =>
    intro i F t h hX hN hZ m1 m2 hh hs
    obtain ⟨⟨hq, hl, f1, f2, f6, f7, ⟨z8, f8⟩, ⟨n9, f9⟩, f10, f11, h8, htp⟩, rest, fr0⟩ := id hX
    have c4 := hX.2.2 _ _ c40 (x_neq c40 hq0 (by simp))
    refine xT.s1 hM rfl rfl ?_
    refine xT.s1 hM rfl rfl ?_
    refine xT.s1 hM rfl rfl ?_
    refine xT.br (fun hb => ?_) (fun hb => ?_)
    · exact xT.ret hM rfl rfl rfl rfl ⟨_, rfl, rfl, hfa, by omega, F, t, _, hX, ⟨Or.inr ⟨by rcases hh with z | z | z <;> simp [z], hs⟩, Or.inr hs, fun _ => hws⟩, by rcases hh with z | z | z <;> (rw [z]; decide), hN.1, hN.2, hZ⟩
    · have hi : i < 35 := Nat.lt_of_not_le (fun z => hb (nI_le (b := i) z (by omega)))
      refine xT.s1 hM rfl rfl ?_
      refine xT.s1 hM rfl rfl ?_
      refine xT.aald hM rfl c4 rfl hi (by omega) ?_
      obtain ⟨nk, hk⟩ := c6 i hi
      have hks := hk.str h
      obtain ⟨wk, wr, fk, ek, -⟩ := hk
      rw [ek] at hks ⊢
      obtain ⟨ns, hs1⟩ := id hs
      refine xT.s1 hM rfl rfl ?_
      refine xT.s1 hM rfl rfl ?_
      refine xT.s1 hM rfl rfl ?_
      refine xT.s2 hM rfl rfl (x2_get rfl (Or.inl rfl) hq f10) ?_
      obtain ⟨Fk, rk, gk, kk, -⟩ := id hks
      refine xT.go hM rfl rfl rfl rfl rfl rfl (xc_sv rfl rfl rfl kk ⟨rfl, Nat.le_of_ble_eq_true rfl, rfl⟩) rfl ⟨Nat.le_of_ble_eq_true rfl, by show (lg_sl [Value.float wk, ws]).length ≤ 3; rw [kk.rv.sl2 hs1.rv.cat]; decide, by decide⟩ (j_equals hks hs1) (fun v h2 hv => ?_)
      obtain ⟨hv, hh2⟩ := hv
      subst h2
      have go : ∀ (F : List Value) (t : Int32) (h : ab_H), m_X h0 h q q8 gb F0 F tp fr a t ws → (8 * h.length ≤ 8 * h0.length + 32 + (a - fr) ∧ h0.length ≤ h.length) → ab_sz h ≤ ab_sz h0 + 24 + 5 * (a - fr) → (t = 2 ∨ t = 3 ∨ t = 4) → (∃ n, j_str e h ws n) → xT e (d + 7) 20 165 [(4, .float wk), (3, .int (nI i)), (2, .int (nI 35)), (1, .ref qk), (0, .ref q)] [] h (fun o h' => ∃ v, o = .inl v ∧ m_LQ e h0 q q8 gb F0 tp fr a v h') := by
        intro F t h hX hN hZ hh hs
        refine xT.s1 hM rfl rfl ?_
        rw [show nI i + Int32.ofInt 1 = nI (i + 1) from nI_add i 1]
        refine xT.s1 hM rfl rfl ?_
        exact xT.weak (L := [(3, .int (nI (i + 1))), (2, .int (nI 35)), (1, .ref qk), (0, .ref q)]) ⟨by simp [ab_put1, x_ci, x_cr, x_cf, x_cn, x_cl2], by simp [ab_put1, x_ci, x_cr, x_cf, x_cn, x_cl2]⟩ (ih (i + 1) F t h hX hN hZ (by omega) (by omega) hh hs)
      rcases hv with rfl | rfl
      · refine xT.s1 hM rfl rfl ?_
        refine xT.brT (rfl) ?_
        exact go F t h hX hN hZ hh hs
      · refine xT.s1 hM rfl rfl ?_
        refine xT.brF (by decide) ?_
        refine xT.s1 hM rfl rfl ?_
        refine xT.s1 hM rfl rfl ?_
        have hq1 := hq
        refine xT.put hM rfl rfl hq (Or.inl rfl) (by rw [hl]; decide) (rfl) (Or.inl rfl) (fun h_1 F_1 eF eh up fb fo fl => ?_)
        replace hX := hX.upd up fl (by decide) fo fb ((fo 7 (by decide)).trans f7) ⟨_, ((fo 8 (by decide)).trans f8)⟩ ⟨_, ((fo 9 (by decide)).trans f9)⟩ ((fo 10 (by decide)).trans f10) ((fo 11 (by decide)).trans f11)
        obtain ⟨⟨hq, hl, f1, f2, f6, f7, ⟨z8, f8⟩, ⟨n9, f9⟩, f10, f11, h8, htp⟩, rest, fr0⟩ := id hX
        have hs2 : ∃ n, j_str e h_1 ws n := ⟨ns, hs1.kept (fun k x hk hn => (up.2.1 k hn).trans hk) hq1 (by decide)⟩
        exact go _ _ _ hX (by rw [up.2.2.1]; exact hN) (by rw [up.2.2.2]; exact hZ) (Or.inl (by decide)) hs2
theorem m_words {F : List Value} {h : ab_H} (hX : m_X h0 h q q8 gb F0 F tp fr fr t w) (hN : h.length = h0.length) (hZ : ab_sz h = ab_sz h0) (hq0 : h0[q]? = some (.inr (3, F0))) (hC : m_C e h0 F0) (hr : x_rm e h0) (hlt : fr < tp) (hlet : x_isL (x_by gb tp fr) = true) : xT e (d + 7) 20 0 [(0, .ref q)] [] h (fun o h' => ∃ v, o = .inl v ∧ m_LQ e h0 q q8 gb F0 tp fr (m_end (m_wS gb tp) tp fr) v h') := by
  have hM : (x_mt e.1)[20]? = some xM20 := rfl
  have hz : m_wS gb tp fr = some (fr + 1) := by unfold m_wS; rw [if_pos ⟨hlt, by simp [m_wC, hlet]⟩]
  refine m_wordLoop (tp - fr + 1) fr F h hX hN hZ (by omega) (by omega) (fun F h hX hN hZ => ?_)
  have w2 : m_end (m_wS gb tp) tp fr ≤ tp := m_end_le m_wS_le (by omega)
  have hfa : fr < m_end (m_wS gb tp) tp fr := by rw [m_end_s (m_wS_st gb tp) hz]; exact m_end_ge (m_wS_st gb tp) _
  generalize m_end (m_wS gb tp) tp fr = a at hX w2 hfa ⊢
  obtain ⟨⟨hq, hl, f1, f2, f6, f7, ⟨z8, f8⟩, ⟨n9, f9⟩, f10, f11, h8, htp⟩, rest, fr0⟩ := id hX
  obtain ⟨qs, qk, sf, kf, c1, c2, c3, c4, c5, c6⟩ := hC
  have c2 := (hX.2.1 5 (by omega)).trans c2
  refine xT.s1 hM rfl rfl ?_
  refine xT.s1 hM rfl rfl ?_
  refine xT.s1 hM rfl rfl ?_
  refine xT.s2 hM rfl rfl (x2_get rfl (Or.inl rfl) hq f7) ?_
  refine xT.s1 hM rfl rfl ?_
  refine xT.s2 hM rfl rfl (x2_get rfl (Or.inl rfl) hq f11) ?_
  have hX0 : m_X h h q q8 gb F F tp fr a t w := ⟨hX.1, fun _ _ => rfl, fun _ _ hk _ => hk⟩
  refine xT.go hM rfl rfl rfl rfl rfl rfl (xc_virt rfl rfl rfl hq ⟨rfl, Nat.le_of_ble_eq_true rfl, rfl, Or.inl rfl⟩) rfl ⟨Nat.le_of_ble_eq_true rfl, Nat.le_of_ble_eq_true rfl, by decide⟩ (m_text hX0 (by omega) w2 ⟨by rw [hN]; exact hr.1, by rw [hZ, hN]; exact hr.2⟩) (fun v h2 hv => ?_)
  obtain ⟨s, rfl, s1, s2, s3, s4, s5⟩ := hv
  replace hX := hX.ext s2
  rw [hN] at s3 s4
  rw [hZ] at s5
  obtain ⟨⟨hq, hl, f1, f2, f6, f7, ⟨z8, f8⟩, ⟨n9, f9⟩, f10, f11, h8, htp⟩, rest, fr0⟩ := id hX
  have hq1 := hq
  refine xT.put hM rfl rfl hq (Or.inl rfl) (by rw [hl]; decide) (rfl) (Or.inl rfl) (fun h_1 F_1 eF eh up fb fo fl => ?_)
  replace hX := hX.upd up fl (by decide) fo ((fo 6 (by decide)).trans f6) ((fo 7 (by decide)).trans f7) ⟨_, ((fo 8 (by decide)).trans f8)⟩ ⟨_, ((fo 9 (by decide)).trans f9)⟩ fb ((fo 11 (by decide)).trans f11)
  obtain ⟨⟨hq, hl, f1, f2, f6, f7, ⟨z8, f8⟩, ⟨n9, f9⟩, f10, f11, h8, htp⟩, rest, fr0⟩ := id hX
  have s1 := s1.kept (fun k x hk hn => (up.2.1 k hn).trans hk) hq1 (by decide)
  replace c2 := (fo 5 (by decide)).trans c2
  replace s3 : 8 * h_1.length ≤ 8 * h0.length + 32 + (a - fr) := by rw [up.2.2.1]; exact s3
  replace s4 : h0.length ≤ h_1.length := by rw [up.2.2.1]; exact s4
  replace s5 : ab_sz h_1 ≤ ab_sz h0 + 24 + 5 * (a - fr) := by rw [up.2.2.2]; exact s5
  refine xT.s1 hM rfl rfl ?_
  refine xT.s1 hM rfl rfl ?_
  refine xT.s1 hM rfl rfl ?_
  refine xT.s2 hM rfl rfl (x2_get rfl (Or.inl rfl) hq f7) ?_
  refine xT.go hM rfl rfl rfl rfl rfl rfl (xc_virt rfl rfl rfl hq ⟨rfl, Nat.le_of_ble_eq_true rfl, rfl, Or.inl rfl⟩) rfl ⟨Nat.le_of_ble_eq_true rfl, Nat.le_of_ble_eq_true rfl, by decide⟩ (m_byteAt hX.S (k := fr) (by omega)) (fun v h2 hv => ?_)
  obtain ⟨rfl, hh2⟩ := hv
  subst h2
  refine xT.s1 hM rfl rfl ?_
  have tail : ∀ (tk : Int32), (tk = 2 ∨ tk = 3 ∨ tk = 4) → xT e (d + 7) 20 125 [(0, .ref q)] [.int tk, .ref q] h_1 (fun o h' => ∃ v, o = .inl v ∧ m_LQ e h0 q q8 gb F0 tp fr a v h') := by
    intro tk htk
    have hq1 := hq
    refine xT.put hM rfl rfl hq (Or.inl rfl) (by rw [hl]; decide) (rfl) (Or.inl rfl) (fun h_2 F_2 eF eh up fb fo fl => ?_)
    replace hX := hX.upd up fl (by decide) fo fb ((fo 7 (by decide)).trans f7) ⟨_, ((fo 8 (by decide)).trans f8)⟩ ⟨_, ((fo 9 (by decide)).trans f9)⟩ ((fo 10 (by decide)).trans f10) ((fo 11 (by decide)).trans f11)
    obtain ⟨⟨hq, hl, f1, f2, f6, f7, ⟨z8, f8⟩, ⟨n9, f9⟩, f10, f11, h8, htp⟩, rest, fr0⟩ := id hX
    have s1 := s1.kept (fun k x hk hn => (up.2.1 k hn).trans hk) hq1 (by decide)
    replace c2 := (fo 5 (by decide)).trans c2
    have c4h := hX.2.2 _ _ c4 (x_neq c4 hq0 (by simp))
    refine xT.s1 hM rfl rfl ?_
    refine xT.s2 hM rfl rfl (x2_get rfl (Or.inl rfl) hq c2) ?_
    refine xT.s1 hM rfl rfl ?_
    refine xT.s1 hM rfl rfl ?_
    refine xT.s2 hM rfl rfl (x2_alen c4h (by decide)) ?_
    refine xT.s1 hM rfl rfl ?_
    refine xT.s1 hM rfl rfl ?_
    refine xT.s1 hM rfl rfl ?_
    exact m_keptLoop hq0 c4 c6 ⟨_, rfl⟩ hfa w2 36 0 _ _ _ hX ⟨by rw [up.2.2.1]; exact s3, by rw [up.2.2.1]; exact s4⟩ (by rw [up.2.2.2]; exact s5) (by omega) (by omega) htk ⟨_, s1⟩
  refine xT.s1 hM rfl rfl ?_
  refine xT.br (fun hb => ?_) (fun hb => ?_)
  · refine xT.s1 hM rfl rfl ?_
    exact tail _ (by decide)
  · refine xT.s1 hM rfl rfl ?_
    refine xT.s1 hM rfl rfl ?_
    exact tail _ (by decide)
end XWD
