/-! the reference: strings -/
theorem j_SI.base {h0 h h2 : ab_H} {qm q qv : Nat} {fs : List Value} {n c : Nat} {f : Nat → Int32} (hI : j_SI h h2 qm q qv fs n c f) (hN : h.length = h0.length) (hZ : ab_sz h = ab_sz h0) (fr : ∀ (k : Nat) (x : ab_E), h0[k]? = some x → k ≠ qm → h[k]? = some x) : j_SI h0 h2 qm q qv fs n c f := by
  obtain ⟨hS, b1, b2, b3, ⟨g, b4, b5⟩, b6, b7⟩ := hI
  exact ⟨hS, by omega, by omega, fun k x hk hn => b3 k x (fr k x hk hn) hn, ⟨g, by omega, b5⟩, b6, by omega⟩
/-- inside of a string -/
def m_sS (gb : Nat → Int32) (tp a : Nat) : Option Nat := if a < tp ∧ 0 < x_by gb tp a ∧ x_by gb tp a ≤ 127 then (if x_by gb tp a = 34 then (if x_by gb tp (a + 1) = 34 then some (a + 2) else none) else some (a + 1)) else none
theorem m_sS_st (gb : Nat → Int32) (tp : Nat) : m_st (m_sS gb tp) tp := fun a b h => by
  unfold m_sS at h
  split at h
  · split at h
    · split at h
      · cases h; omega
      · cases h
    · cases h; omega
  · cases h
def m_sE (gb : Nat → Int32) (tp a : Nat) : Nat := if x_by gb tp (m_end (m_sS gb tp) tp a) = 34 then m_end (m_sS gb tp) tp a + 1 else m_end (m_sS gb tp) tp a
theorem m_sE_s {gb : Nat → Int32} {tp a b : Nat} (h : m_sS gb tp a = some b) : m_sE gb tp a = m_sE gb tp b := by unfold m_sE; rw [m_end_s (m_sS_st gb tp) h]
theorem m_sE_n {gb : Nat → Int32} {tp a : Nat} (h : m_sS gb tp a = none) : m_sE gb tp a = if x_by gb tp a = 34 then a + 1 else a := by unfold m_sE; rw [m_end_n h]
section XST
variable {e : xE} {d q q8 tp fr : Nat} {gb : Nat → Int32} {h0 : ab_H} {F0 : List Value} {t : Int32} {w : Value}
theorem m_strLoop {sb : Nat} (ht : t = 6) (hr : x_rm e h0) (hq0 : h0[q]? = some (.inr (3, F0))) (hw0 : w = .null ∨ ∃ n, j_str e h0 w n) (hql : q < h0.length) (h8l : q8 < h0.length) (htp0 : tp ≤ 4096) : ∀ (m a c : Nat) (F : List Value) (h : ab_H) (qv : Nat) (fs : List Value) (n : Nat) (f : Nat → Int32), j_SI h0 h q sb qv fs n c f → m_X h0 h q q8 gb F0 F tp fr a t w → tp - a < m → fr < a → a ≤ tp → c + fr < a → xT e (d + 6) 22 24 [(1, .ref sb), (0, .ref q)] [] h (fun o h' => ∃ v, o = .inl v ∧ m_LQ e h0 q q8 gb F0 tp fr (m_sE gb tp a) v h') := by
  have hM : (x_mt e.1)[22]? = some xM22 := rfl
  intro m
  induction m with
  | zero => intro a c F h qv fs n f hI hX m1; omega
  | succ m ih =>
    intro a c F h qv fs n f hI hX m1 m2 m3 m4
    obtain ⟨⟨hq, hl, f1, f2, f6, f7, ⟨z8, f8⟩, ⟨n9, f9⟩, f10, f11, h8, htp⟩, rest, fr0⟩ := id hX
    refine xT.s1 hM rfl rfl ?_
    refine xT.s1 hM rfl rfl ?_
    refine xT.s2 hM rfl rfl (x2_get rfl (Or.inl rfl) hq f11) ?_
    refine xT.go hM rfl rfl rfl rfl rfl rfl (xc_virt rfl rfl rfl hq ⟨rfl, Nat.le_of_ble_eq_true rfl, rfl, Or.inl rfl⟩) rfl ⟨Nat.le_of_ble_eq_true rfl, Nat.le_of_ble_eq_true rfl, by decide⟩ (m_byteAt hX.S (k := a) (by omega)) (fun v h2 hv => ?_)
    obtain ⟨rfl, hh2⟩ := hv
    subst h2
    refine xT.s1 hM rfl rfl ?_
    refine xT.s1 hM rfl rfl ?_
    refine xT.s1 hM rfl rfl ?_
    refine xT.br (fun hb => ?_) (fun hb => ?_)
    · rw [m_sE_n (show m_sS gb tp a = none from by unfold m_sS; rw [if_neg (fun z => by first | exact hb2 z.2.2 | exact absurd hb (Int32.not_le.mpr z.2.1))]), if_neg (fun z => by rw [z] at hb; exact absurd hb (by decide))]
      refine xT.s1 hM rfl rfl ?_
      refine xT.s1 hM rfl rfl ?_
      refine xT.put hM rfl rfl hq (Or.inl rfl) (by rw [hl]; decide) (rfl) (Or.inl rfl) (fun h_1 F_1 eF eh up fb fo fl => ?_)
      replace hX := hX.upd up fl (by decide) fo fb ((fo 7 (by decide)).trans f7) ⟨_, ((fo 8 (by decide)).trans f8)⟩ ⟨_, ((fo 9 (by decide)).trans f9)⟩ ((fo 10 (by decide)).trans f10) ((fo 11 (by decide)).trans f11)
      obtain ⟨⟨hq, hl, f1, f2, f6, f7, ⟨z8, f8⟩, ⟨n9, f9⟩, f10, f11, h8, htp⟩, rest, fr0⟩ := id hX
      replace hI := hI.upd hql up
      exact xT.ret hM rfl rfl rfl rfl ⟨_, rfl, rfl, by omega, by omega, _, _, w, hX, ⟨Or.inl (Or.inr (Or.inl (by decide))), x_w0 hX hq0 hw0, fun z => absurd z (by decide)⟩, by decide, by have := hI.cost; omega, by have := hI.cost; omega, by have := hI.cost; omega⟩
    · refine xT.s1 hM rfl rfl ?_
      refine xT.s1 hM rfl rfl ?_
      refine xT.s1 hM rfl rfl ?_
      refine xT.br (fun hb2 => ?_) (fun hb2 => ?_)
      · rw [show (Int8.ofInt 127).toInt32 = 127 from by decide] at hb2
        have hin : a < tp := x_byIn (fun z => hb (by rw [z]; decide))
        have hpos : 0 < x_by gb tp a := Int32.not_le.mp hb
        have h127 : x_by gb tp a ≤ 127 := hb2
        have hy : ((x_by gb tp a).toUInt32 % 65536).toInt32 ≤ 255 := x_by255 hin
        refine xT.s1 hM rfl rfl ?_
        refine xT.s1 hM rfl rfl ?_
        refine xT.s2 hM rfl rfl (x2_get rfl (Or.inl rfl) hq f11) ?_
        refine xT.s1 hM rfl rfl ?_
        refine xT.s1 hM rfl rfl ?_
        rw [show nI a + Int32.ofInt 1 = nI (a + 1) from nI_add a 1]
        refine xT.put hM rfl rfl hq (Or.inl rfl) (by rw [hl]; decide) (rfl) (Or.inl rfl) (fun h_2 F_2 eF eh up fb fo fl => ?_)
        replace hX := hX.upd up fl (by decide) fo ((fo 6 (by decide)).trans f6) ((fo 7 (by decide)).trans f7) ⟨_, ((fo 8 (by decide)).trans f8)⟩ ⟨_, ((fo 9 (by decide)).trans f9)⟩ ((fo 10 (by decide)).trans f10) fb
        obtain ⟨⟨hq, hl, f1, f2, f6, f7, ⟨z8, f8⟩, ⟨n9, f9⟩, f10, f11, h8, htp⟩, rest, fr0⟩ := id hX
        replace hI := hI.upd hql up
        refine xT.s1 hM rfl rfl ?_
        refine xT.s1 hM rfl rfl ?_
        have app : ∀ (a' : Nat) (F : List Value) (h : ab_H), m_sS gb tp a = some a' → j_SI h0 h q sb qv fs n c f → m_X h0 h q q8 gb F0 F tp fr a' t w → a < a' → a' ≤ tp → xT e (d + 6) 22 91 [(2, .int (x_by gb tp a)), (1, .ref sb), (0, .ref q)] [] h (fun o h' => ∃ v, o = .inl v ∧ m_LQ e h0 q q8 gb F0 tp fr (m_sE gb tp a) v h') := by
          intro a' F h hz hI hX l1 l2
          rw [m_sE_s hz]
          obtain ⟨⟨hq, hl, f1, f2, f6, f7, ⟨z8, f8⟩, ⟨n9, f9⟩, f10, f11, h8, htp⟩, rest, fr0⟩ := id hX
          refine xT.s1 hM rfl rfl ?_
          refine xT.s1 hM rfl rfl ?_
          refine xT.s1 hM rfl rfl ?_
          refine xT.go hM rfl rfl rfl rfl rfl rfl (xc_virt rfl rfl rfl hI.1.1 ⟨rfl, Nat.le_of_ble_eq_true rfl, rfl, Or.inl rfl⟩) rfl ⟨Nat.le_of_ble_eq_true rfl, Nat.le_of_ble_eq_true rfl, by decide⟩ (j_appI hI (by omega) hr hy) (fun v h2 hv => ?_)
          obtain ⟨rfl, qv', fs', n', f', hI', low⟩ := hv
          refine xT.s1 hM rfl rfl ?_
          refine xT.s1 hM rfl rfl ?_
          exact xT.weak (L := [(1, .ref sb), (0, .ref q)]) ⟨by simp, by simp⟩ (ih a' (c + 1) F h2 qv' fs' n' f' hI' (hX.low hql h8l (Nat.le_refl _) low) (by omega) (by omega) (by omega) (by omega))
        refine xT.s1 hM rfl rfl ?_
        refine xT.br (fun hb3 => ?_) (fun hb3 => ?_)
        · rw [show (Int8.ofInt 34).toInt32 = 34 from by decide] at hb3
          refine xT.s1 hM rfl rfl ?_
          refine xT.s1 hM rfl rfl ?_
          refine xT.s2 hM rfl rfl (x2_get rfl (Or.inl rfl) hq f11) ?_
          refine xT.go hM rfl rfl rfl rfl rfl rfl (xc_virt rfl rfl rfl hq ⟨rfl, Nat.le_of_ble_eq_true rfl, rfl, Or.inl rfl⟩) rfl ⟨Nat.le_of_ble_eq_true rfl, Nat.le_of_ble_eq_true rfl, by decide⟩ (m_byteAt hX.S (k := (a + 1)) (by omega)) (fun v h2 hv => ?_)
          obtain ⟨rfl, hh2⟩ := hv
          subst h2
          refine xT.s1 hM rfl rfl ?_
          refine xT.s1 hM rfl rfl ?_
          refine xT.br (fun hb4 => ?_) (fun hb4 => ?_)
          · rw [show (Int8.ofInt 34).toInt32 = 34 from by decide] at hb4
            have hin2 : a + 1 < tp := x_byIn (fun z => by rw [z] at hb4; exact absurd hb4 (by decide))
            refine xT.s1 hM rfl rfl ?_
            refine xT.s1 hM rfl rfl ?_
            refine xT.s2 hM rfl rfl (x2_get rfl (Or.inl rfl) hq f11) ?_
            refine xT.s1 hM rfl rfl ?_
            refine xT.s1 hM rfl rfl ?_
            rw [show nI (a + 1) + Int32.ofInt 1 = nI ((a + 1) + 1) from nI_add (a + 1) 1]
            refine xT.put hM rfl rfl hq (Or.inl rfl) (by rw [hl]; decide) (rfl) (Or.inl rfl) (fun h_3 F_3 eF eh up fb fo fl => ?_)
            replace hX := hX.upd up fl (by decide) fo ((fo 6 (by decide)).trans f6) ((fo 7 (by decide)).trans f7) ⟨_, ((fo 8 (by decide)).trans f8)⟩ ⟨_, ((fo 9 (by decide)).trans f9)⟩ ((fo 10 (by decide)).trans f10) fb
            obtain ⟨⟨hq, hl, f1, f2, f6, f7, ⟨z8, f8⟩, ⟨n9, f9⟩, f10, f11, h8, htp⟩, rest, fr0⟩ := id hX
            replace hI := hI.upd hql up
            exact app (a + 1 + 1) _ _ (by unfold m_sS; rw [if_pos ⟨hin, hpos, h127⟩, if_pos hb3, if_pos hb4]) hI hX (by omega) (by omega)
          · rw [show (Int8.ofInt 34).toInt32 = 34 from by decide] at hb4
            rw [m_sE_n (show m_sS gb tp a = none from by unfold m_sS; rw [if_pos ⟨hin, hpos, h127⟩, if_pos hb3, if_neg hb4]), if_pos hb3]
            refine xT.s1 hM rfl rfl ?_
            refine xT.s1 hM rfl rfl ?_
            refine xT.s1 hM rfl rfl ?_
            refine xT.go hM rfl rfl rfl rfl rfl rfl (xc_virt rfl rfl rfl hI.1.1 ⟨rfl, Nat.le_of_ble_eq_true rfl, rfl, Or.inl rfl⟩) rfl ⟨Nat.le_of_ble_eq_true rfl, Nat.le_of_ble_eq_true rfl, by decide⟩ (j_tsI hI (by omega) hr) (fun v h2 hv => ?_)
            obtain ⟨s, rfl, s1, s2, s3, s4, s5⟩ := hv
            replace hX := hX.ext s2
            obtain ⟨⟨hq, hl, f1, f2, f6, f7, ⟨z8, f8⟩, ⟨n9, f9⟩, f10, f11, h8, htp⟩, rest, fr0⟩ := id hX
            have hq1 := hq
            refine xT.put hM rfl rfl hq (Or.inl rfl) (by rw [hl]; decide) (rfl) (Or.inl rfl) (fun h_4 F_4 eF eh up fb fo fl => ?_)
            replace hX := hX.upd up fl (by decide) fo ((fo 6 (by decide)).trans f6) ((fo 7 (by decide)).trans f7) ⟨_, ((fo 8 (by decide)).trans f8)⟩ ⟨_, ((fo 9 (by decide)).trans f9)⟩ fb ((fo 11 (by decide)).trans f11)
            obtain ⟨⟨hq, hl, f1, f2, f6, f7, ⟨z8, f8⟩, ⟨n9, f9⟩, f10, f11, h8, htp⟩, rest, fr0⟩ := id hX
            have s1 := s1.kept (fun k x hk hn => (up.2.1 k hn).trans hk) hq1 (by decide)
            exact xT.ret hM rfl rfl rfl rfl ⟨_, rfl, rfl, by omega, by omega, _, _, _, hX, ⟨Or.inr ⟨by rw [ht]; decide, _, s1⟩, Or.inr ⟨_, s1⟩, fun z => absurd (ht.symm.trans z) (by decide)⟩, by rw [ht]; decide, by rw [up.2.2.1]; omega, by rw [up.2.2.1]; exact s4, by rw [up.2.2.2]; omega⟩
        · rw [show (Int8.ofInt 34).toInt32 = 34 from by decide] at hb3
          exact app (a + 1) _ _ (by unfold m_sS; rw [if_pos ⟨hin, hpos, h127⟩, if_neg hb3]) hI hX (by omega) (by omega)
      · rw [show (Int8.ofInt 127).toInt32 = 127 from by decide] at hb2
        rw [m_sE_n (show m_sS gb tp a = none from by unfold m_sS; rw [if_neg (fun z => by first | exact hb2 z.2.2 | exact absurd hb (Int32.not_le.mpr z.2.1))]), if_neg (fun z => by rw [z] at hb2; exact absurd hb2 (by decide))]
        refine xT.s1 hM rfl rfl ?_
        refine xT.s1 hM rfl rfl ?_
        refine xT.put hM rfl rfl hq (Or.inl rfl) (by rw [hl]; decide) (rfl) (Or.inl rfl) (fun h_5 F_5 eF eh up fb fo fl => ?_)
        replace hX := hX.upd up fl (by decide) fo fb ((fo 7 (by decide)).trans f7) ⟨_, ((fo 8 (by decide)).trans f8)⟩ ⟨_, ((fo 9 (by decide)).trans f9)⟩ ((fo 10 (by decide)).trans f10) ((fo 11 (by decide)).trans f11)
        obtain ⟨⟨hq, hl, f1, f2, f6, f7, ⟨z8, f8⟩, ⟨n9, f9⟩, f10, f11, h8, htp⟩, rest, fr0⟩ := id hX
        replace hI := hI.upd hql up
        exact xT.ret hM rfl rfl rfl rfl ⟨_, rfl, rfl, by omega, by omega, _, _, w, hX, ⟨Or.inl (Or.inr (Or.inl (by decide))), x_w0 hX hq0 hw0, fun z => absurd z (by decide)⟩, by decide, by have := hI.cost; omega, by have := hI.cost; omega, by have := hI.cost; omega⟩
theorem m_strings {F : List Value} {h : ab_H} (hX : m_X h0 h q q8 gb F0 F tp fr fr t w) (hN : h.length = h0.length) (hZ : ab_sz h = ab_sz h0) (hq0 : h0[q]? = some (.inr (3, F0))) (hw0 : w = .null ∨ ∃ n, j_str e h0 w n) (hr : x_rm e h0) (hlt : fr < tp) : xT e (d + 6) 22 0 [(0, .ref q)] [] h (fun o h' => ∃ v, o = .inl v ∧ m_LQ e h0 q q8 gb F0 tp fr (m_sE gb tp (fr + 1)) v h') := by
  have hM : (x_mt e.1)[22]? = some xM22 := rfl
  obtain ⟨⟨hq, hl, f1, f2, f6, f7, ⟨z8, f8⟩, ⟨n9, f9⟩, f10, f11, h8, htp⟩, rest, fr0⟩ := id hX
  refine xT.s1 hM rfl rfl ?_
  refine xT.s1 hM rfl rfl ?_
  refine xT.put hM rfl rfl hq (Or.inl rfl) (by rw [hl]; decide) (rfl) (Or.inl rfl) (fun h_1 F_1 eF eh up fb fo fl => ?_)
  replace hX := hX.upd up fl (by decide) fo fb ((fo 7 (by decide)).trans f7) ⟨_, ((fo 8 (by decide)).trans f8)⟩ ⟨_, ((fo 9 (by decide)).trans f9)⟩ ((fo 10 (by decide)).trans f10) ((fo 11 (by decide)).trans f11)
  obtain ⟨⟨hq, hl, f1, f2, f6, f7, ⟨z8, f8⟩, ⟨n9, f9⟩, f10, f11, h8, htp⟩, rest, fr0⟩ := id hX
  replace hN := up.2.2.1.trans hN
  replace hZ := up.2.2.2.trans hZ
  refine xT.new hM rfl rfl rfl (by have := hr.1; omega) (by have := hr.2; show ab_sz _ + 4 ≤ _; omega) (fun h1 e1 w1 => ?_)
  have s1 : ab_sz h1 = ab_sz _ + 4 := w1.2.2.2
  refine xT.s1 hM rfl rfl ?_
  refine xT.go hM rfl rfl rfl rfl rfl rfl (xc_init rfl rfl rfl ⟨rfl, Nat.le_of_ble_eq_true rfl, rfl, rfl, rfl⟩) rfl ⟨Nat.le_of_ble_eq_true rfl, Nat.le_of_ble_eq_true rfl, by decide⟩ (j_sbInit w1.1 (by have := hr.1; rw [w1.2.2.1]; omega) (by have := hr.2; rw [s1]; omega)) (fun v h2 hv => ?_)
  obtain ⟨rfl, Fb, i1, i2, i3, i4⟩ := hv
  have hI := (j_SI.of (qm := q) (Or.inr trivial) w1 rfl i1 i2 i3 i4).base hN hZ fr0
  have hql : q < h0.length := by have := x_lt hq; omega
  have h8l : q8 < h0.length := by have := x_lt h8; omega
  replace hX := hX.low hql h8l (Nat.le_refl _) (fun k x hk hl => i2 k x (w1.2.1 _ _ hk) (by omega))
  obtain ⟨⟨hq, hl, f1, f2, f6, f7, ⟨z8, f8⟩, ⟨n9, f9⟩, f10, f11, h8, htp⟩, rest, fr0⟩ := id hX
  skip
  refine xT.s1 hM rfl rfl ?_
  refine xT.s1 hM rfl rfl ?_
  refine xT.s1 hM rfl rfl ?_
  refine xT.s2 hM rfl rfl (x2_get rfl (Or.inl rfl) hq f11) ?_
  refine xT.s1 hM rfl rfl ?_
  refine xT.s1 hM rfl rfl ?_
  rw [show nI fr + Int32.ofInt 1 = nI (fr + 1) from nI_add fr 1]
  refine xT.put hM rfl rfl hq (Or.inl rfl) (by rw [hl]; decide) (rfl) (Or.inl rfl) (fun h_2 F_2 eF eh up fb fo fl => ?_)
  replace hX := hX.upd up fl (by decide) fo ((fo 6 (by decide)).trans f6) ((fo 7 (by decide)).trans f7) ⟨_, ((fo 8 (by decide)).trans f8)⟩ ⟨_, ((fo 9 (by decide)).trans f9)⟩ ((fo 10 (by decide)).trans f10) fb
  obtain ⟨⟨hq, hl, f1, f2, f6, f7, ⟨z8, f8⟩, ⟨n9, f9⟩, f10, f11, h8, htp⟩, rest, fr0⟩ := id hX
  replace hI := hI.upd hql up
  exact m_strLoop (by decide) hr hq0 hw0 hql h8l htp (tp + 1) (fr + 1) 0 _ _ _ _ _ _ hI hX (by omega) (by omega) (by omega) (by omega)
end XST
