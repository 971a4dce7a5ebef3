/-! the reference: quoted -/
def m_hx (c : Int32) : Bool := x_isD c || (decide (65 ≤ c) && decide (c ≤ 70))
/-- inside of BITS or HEX -/
def m_qS (gb : Nat → Int32) (tp a : Nat) : Option Nat := if a < tp ∧ ¬ x_by gb tp a = 39 ∧ (m_hx (x_by gb tp a) = true ∨ x_isB (x_by gb tp a) = true) then some (a + 1) else none
theorem m_qS_st (gb : Nat → Int32) (tp : Nat) : m_st (m_qS gb tp) tp := fun a b h => by
  unfold m_qS at h
  split at h
  · rename_i hc; cases h; omega
  · cases h
def m_qE (gb : Nat → Int32) (tp a : Nat) : Nat := if x_by gb tp (m_end (m_qS gb tp) tp a) = 39 then m_end (m_qS gb tp) tp a + 2 else m_end (m_qS gb tp) tp a
theorem m_qE_s {gb : Nat → Int32} {tp a b : Nat} (h : m_qS gb tp a = some b) : m_qE gb tp a = m_qE gb tp b := by unfold m_qE; rw [m_end_s (m_qS_st gb tp) h]
theorem m_qE_n {gb : Nat → Int32} {tp a : Nat} (h : m_qS gb tp a = none) : m_qE gb tp a = if x_by gb tp a = 39 then a + 2 else a := by unfold m_qE; rw [m_end_n h]
section XQU
variable {e : xE} {d q q8 tp fr : Nat} {gb : Nat → Int32} {h0 : ab_H} {F0 : List Value} {t : Int32} {w : Value}
theorem m_quoLoop {sb : Nat} (hr : x_rm e h0) (hq0 : h0[q]? = some (.inr (3, F0))) (hw0 : w = .null ∨ ∃ n, j_str e h0 w n) (hql : q < h0.length) (h8l : q8 < h0.length) (htp0 : tp ≤ 4096) : ∀ (m a c : Nat) (b : Int32) (F : List Value) (h : ab_H) (qv : Nat) (fs : List Value) (n : Nat) (f : Nat → Int32), j_SI h0 h q sb qv fs n c f → m_X h0 h q q8 gb F0 F tp fr a t w → tp - a < m → fr < a → a ≤ tp → c + fr < a → xT e (d + 6) 23 20 [(2, .int b), (1, .ref sb), (0, .ref q)] [] h (fun o h' => ∃ v, o = .inl v ∧ m_LQ e h0 q q8 gb F0 tp fr (m_qE gb tp a) v h') := by
  have hM : (x_mt e.1)[23]? = some xM23 := rfl
  intro m
  induction m with
  | zero => intro a c b F h qv fs n f hI hX m1; omega
  | succ m ih =>
    intro a c b F h qv fs n f hI hX m1 m2 m3 m4
    obtain ⟨⟨hq, hl, f1, f2, f6, f7, ⟨z8, f8⟩, ⟨n9, f9⟩, f10, f11, h8, htp⟩, rest, fr0⟩ := id hX
    refine xT.s1 hM rfl rfl ?_
    refine xT.s1 hM rfl rfl ?_
    refine xT.s2 hM rfl rfl (x2_get rfl (Or.inl rfl) hq f11) ?_
    refine xT.go hM rfl rfl rfl rfl rfl rfl (xc_virt rfl rfl rfl hq ⟨rfl, Nat.le_of_ble_eq_true rfl, rfl, Or.inl rfl⟩) rfl ⟨Nat.le_of_ble_eq_true rfl, Nat.le_of_ble_eq_true rfl, by decide⟩ (m_byteAt hX.S (k := a) (by omega)) (fun v h2 hv => ?_)
    obtain ⟨rfl, hh2⟩ := hv
    subst h2
    refine xT.s1 hM rfl rfl ?_
    refine xT.s1 hM rfl rfl ?_
    refine xT.br (fun hb => ?_) (fun hb => ?_)
    · rw [show (Int8.ofInt 39).toInt32 = 39 from by decide] at hb
      rw [m_qE_n (show m_qS gb tp a = none from by unfold m_qS; rw [if_neg (fun z => z.2.1 hb)]), if_pos hb]
      have hin : a < tp := x_byIn (fun z => by rw [z] at hb; exact absurd hb (by decide))
      refine xT.s1 hM rfl rfl ?_
      refine xT.s1 hM rfl rfl ?_
      refine xT.s2 hM rfl rfl (x2_get rfl (Or.inl rfl) hq f11) ?_
      refine xT.s1 hM rfl rfl ?_
      refine xT.s1 hM rfl rfl ?_
      rw [show nI a + Int32.ofInt 1 = nI (a + 1) from nI_add a 1]
      refine xT.put hM rfl rfl hq (Or.inl rfl) (by rw [hl]; decide) (rfl) (Or.inl rfl) (fun h_1 F_1 eF eh up fb fo fl => ?_)
      replace hX := hX.upd up fl (by decide) fo ((fo 6 (by decide)).trans f6) ((fo 7 (by decide)).trans f7) ⟨_, ((fo 8 (by decide)).trans f8)⟩ ⟨_, ((fo 9 (by decide)).trans f9)⟩ ((fo 10 (by decide)).trans f10) fb
      obtain ⟨⟨hq, hl, f1, f2, f6, f7, ⟨z8, f8⟩, ⟨n9, f9⟩, f10, f11, h8, htp⟩, rest, fr0⟩ := id hX
      replace hI := hI.upd hql up
      refine xT.s1 hM rfl rfl ?_
      refine xT.s1 hM rfl rfl ?_
      refine xT.s2 hM rfl rfl (x2_get rfl (Or.inl rfl) hq f11) ?_
      refine xT.go hM rfl rfl rfl rfl rfl rfl (xc_virt rfl rfl rfl hq ⟨rfl, Nat.le_of_ble_eq_true rfl, rfl, Or.inl rfl⟩) rfl ⟨Nat.le_of_ble_eq_true rfl, Nat.le_of_ble_eq_true rfl, by decide⟩ (m_byteAt hX.S (k := (a + 1)) (by omega)) (fun v h2 hv => ?_)
      obtain ⟨rfl, hh2⟩ := hv
      subst h2
      refine xT.s1 hM rfl rfl ?_
      refine xT.s1 hM rfl rfl ?_
      refine xT.s1 hM rfl rfl ?_
      refine xT.s2 hM rfl rfl (x2_get rfl (Or.inl rfl) hq f11) ?_
      refine xT.s1 hM rfl rfl ?_
      refine xT.s1 hM rfl rfl ?_
      rw [show nI (a + 1) + Int32.ofInt 1 = nI ((a + 1) + 1) from nI_add (a + 1) 1]
      refine xT.put hM rfl rfl hq (Or.inl rfl) (by rw [hl]; decide) (rfl) (Or.inl rfl) (fun h_2 F_2 eF eh up fb fo fl => ?_)
      replace hX := hX.upd up fl (by decide) fo ((fo 6 (by decide)).trans f6) ((fo 7 (by decide)).trans f7) ⟨_, ((fo 8 (by decide)).trans f8)⟩ ⟨_, ((fo 9 (by decide)).trans f9)⟩ ((fo 10 (by decide)).trans f10) fb
      obtain ⟨⟨hq, hl, f1, f2, f6, f7, ⟨z8, f8⟩, ⟨n9, f9⟩, f10, f11, h8, htp⟩, rest, fr0⟩ := id hX
      replace hI := hI.upd hql up
      refine xT.s1 hM rfl rfl ?_
      refine xT.s1 hM rfl rfl ?_
      refine xT.s1 hM rfl rfl ?_
      have tail : ∀ (tk : Int32), (tk = 8 ∨ tk = 7 ∨ tk = 1) → xT e (d + 6) 23 178 [(3, .int (x_by gb tp (a + 1))), (2, .int b), (1, .ref sb), (0, .ref q)] [.int tk, .ref q] h_2 (fun o h' => ∃ v, o = .inl v ∧ m_LQ e h0 q q8 gb F0 tp fr (a + 2) v h') := by
        intro tk htk
        refine xT.put hM rfl rfl hq (Or.inl rfl) (by rw [hl]; decide) (rfl) (Or.inl rfl) (fun h_3 F_3 eF eh up fb fo fl => ?_)
        replace hX := hX.upd up fl (by decide) fo fb ((fo 7 (by decide)).trans f7) ⟨_, ((fo 8 (by decide)).trans f8)⟩ ⟨_, ((fo 9 (by decide)).trans f9)⟩ ((fo 10 (by decide)).trans f10) ((fo 11 (by decide)).trans f11)
        obtain ⟨⟨hq, hl, f1, f2, f6, f7, ⟨z8, f8⟩, ⟨n9, f9⟩, f10, f11, h8, htp⟩, rest, fr0⟩ := id hX
        replace hI := hI.upd hql up
        refine xT.s1 hM rfl rfl ?_
        refine xT.s1 hM rfl rfl ?_
        refine xT.go hM rfl rfl rfl rfl rfl rfl (xc_virt rfl rfl rfl hI.1.1 ⟨rfl, Nat.le_of_ble_eq_true rfl, rfl, Or.inl rfl⟩) rfl ⟨Nat.le_of_ble_eq_true rfl, Nat.le_of_ble_eq_true rfl, by decide⟩ (j_tsI hI (by omega) hr) (fun v h2 hv => ?_)
        obtain ⟨s, rfl, s1, s2, s3, s4, s5⟩ := hv
        replace hX := hX.ext s2
        obtain ⟨⟨hq, hl, f1, f2, f6, f7, ⟨z8, f8⟩, ⟨n9, f9⟩, f10, f11, h8, htp⟩, rest, fr0⟩ := id hX
        have hq1 := hq
        refine xT.put hM rfl rfl hq (Or.inl rfl) (by rw [hl]; decide) (rfl) (Or.inl rfl) (fun h_4 F_4 eF eh up fb fo fl => ?_)
        replace hX := hX.upd up fl (by decide) fo ((fo 6 (by decide)).trans f6) ((fo 7 (by decide)).trans f7) ⟨_, ((fo 8 (by decide)).trans f8)⟩ ⟨_, ((fo 9 (by decide)).trans f9)⟩ fb ((fo 11 (by decide)).trans f11)
        obtain ⟨⟨hq, hl, f1, f2, f6, f7, ⟨z8, f8⟩, ⟨n9, f9⟩, f10, f11, h8, htp⟩, rest, fr0⟩ := id hX
        have s1 := s1.kept (fun k x hk hn => (up.2.1 k hn).trans hk) hq1 (by decide)
        have okq : m_ok e h_4 tk (.ref s) := by
          refine ⟨?_, Or.inr ⟨_, s1⟩, fun z => ?_⟩
          · rcases htk with z | z | z
            · exact Or.inr ⟨by rw [z]; decide, _, s1⟩
            · exact Or.inr ⟨by rw [z]; decide, _, s1⟩
            · exact Or.inl (by rw [z]; decide)
          · rcases htk with y | y | y <;> (rw [y] at z; exact absurd z (by decide))
        exact xT.ret hM rfl rfl rfl rfl ⟨_, rfl, rfl, by omega, by omega, _, _, _, hX, okq, by rcases htk with z | z | z <;> (rw [z]; decide), by rw [up.2.2.1]; omega, by rw [up.2.2.1]; exact s4, by rw [up.2.2.2]; omega⟩
      refine xT.s1 hM rfl rfl ?_
      refine xT.br (fun hb2 => ?_) (fun hb2 => ?_)
      · refine xT.s1 hM rfl rfl ?_
        refine xT.s1 hM rfl rfl ?_
        exact tail _ (by decide)
      · refine xT.s1 hM rfl rfl ?_
        refine xT.s1 hM rfl rfl ?_
        refine xT.s1 hM rfl rfl ?_
        refine xT.br (fun hb3 => ?_) (fun hb3 => ?_)
        · refine xT.s1 hM rfl rfl ?_
          refine xT.s1 hM rfl rfl ?_
          refine xT.br (fun hb4 => ?_) (fun hb4 => ?_)
          · refine xT.s1 hM rfl rfl ?_
            exact tail _ (by decide)
          · refine xT.s1 hM rfl rfl ?_
            refine xT.s1 hM rfl rfl ?_
            exact tail _ (by decide)
        · refine xT.s1 hM rfl rfl ?_
          exact tail _ (by decide)
    · rw [show (Int8.ofInt 39).toInt32 = 39 from by decide] at hb
      refine xT.s1 hM rfl rfl ?_
      refine xT.s1 hM rfl rfl ?_
      refine xT.s2 hM rfl rfl (x2_get rfl (Or.inl rfl) hq f11) ?_
      refine xT.go hM rfl rfl rfl rfl rfl rfl (xc_virt rfl rfl rfl hq ⟨rfl, Nat.le_of_ble_eq_true rfl, rfl, Or.inl rfl⟩) rfl ⟨Nat.le_of_ble_eq_true rfl, Nat.le_of_ble_eq_true rfl, by decide⟩ (m_byteAt hX.S (k := a) (by omega)) (fun v h2 hv => ?_)
      obtain ⟨rfl, hh2⟩ := hv
      subst h2
      refine xT.s1 hM rfl rfl ?_
      refine xT.s1 hM rfl rfl ?_
      refine xT.s1 hM rfl rfl ?_
      have nxt : ∀ (b' : Int32) (c' : Nat) (h : ab_H) (F : List Value) (qv : Nat) (fs : List Value) (n : Nat) (f : Nat → Int32) (hx : Int32), a < tp → m_qS gb tp a = some (a + 1) → c' ≤ c + 1 → j_SI h0 h q sb qv fs n c' f → m_X h0 h q q8 gb F0 F tp fr a t w → xT e (d + 6) 23 108 [(2, .int b'), (4, .int hx), (3, .int (x_by gb tp a)), (1, .ref sb), (0, .ref q)] [] h (fun o h' => ∃ v, o = .inl v ∧ m_LQ e h0 q q8 gb F0 tp fr (m_qE gb tp a) v h') := by
        intro b' c' h F qv fs n f hx hin hz hc hI hX
        rw [m_qE_s hz]
        obtain ⟨⟨hq, hl, f1, f2, f6, f7, ⟨z8, f8⟩, ⟨n9, f9⟩, f10, f11, h8, htp⟩, rest, fr0⟩ := id hX
        refine xT.s1 hM rfl rfl ?_
        refine xT.s1 hM rfl rfl ?_
        refine xT.s2 hM rfl rfl (x2_get rfl (Or.inl rfl) hq f11) ?_
        refine xT.s1 hM rfl rfl ?_
        refine xT.s1 hM rfl rfl ?_
        rw [show nI a + Int32.ofInt 1 = nI (a + 1) from nI_add a 1]
        refine xT.put hM rfl rfl hq (Or.inl rfl) (by rw [hl]; decide) (rfl) (Or.inl rfl) (fun h_5 F_5 eF eh up fb fo fl => ?_)
        replace hX := hX.upd up fl (by decide) fo ((fo 6 (by decide)).trans f6) ((fo 7 (by decide)).trans f7) ⟨_, ((fo 8 (by decide)).trans f8)⟩ ⟨_, ((fo 9 (by decide)).trans f9)⟩ ((fo 10 (by decide)).trans f10) fb
        obtain ⟨⟨hq, hl, f1, f2, f6, f7, ⟨z8, f8⟩, ⟨n9, f9⟩, f10, f11, h8, htp⟩, rest, fr0⟩ := id hX
        replace hI := hI.upd hql up
        refine xT.s1 hM rfl rfl ?_
        exact xT.weak (L := [(2, .int b'), (1, .ref sb), (0, .ref q)]) ⟨by simp, by simp⟩ (ih (a + 1) c' b' _ _ _ _ _ _ hI hX (by omega) (by omega) (by omega) (by omega))
      have core : ∀ (hx : Int32), ((hx = 0 ∧ ¬ m_hx (x_by gb tp a) = true) ∨ (hx = 1 ∧ a < tp ∧ m_hx (x_by gb tp a) = true)) → xT e (d + 6) 23 69 [(4, .int hx), (3, .int (x_by gb tp a)), (2, .int b), (1, .ref sb), (0, .ref q)] [] h (fun o h' => ∃ v, o = .inl v ∧ m_LQ e h0 q q8 gb F0 tp fr (m_qE gb tp a) v h') := by
        intro hx hhx
        refine xT.s1 hM rfl rfl ?_
        refine xT.s1 hM rfl rfl ?_
        refine xT.br (fun hb2 => ?_) (fun hb2 => ?_)
        · refine xT.s1 hM rfl rfl ?_
          refine xT.s1 hM rfl rfl ?_
          refine xT.go hM rfl rfl rfl rfl rfl rfl (xc_virt rfl rfl rfl hq ⟨rfl, Nat.le_of_ble_eq_true rfl, rfl, Or.inl rfl⟩) rfl ⟨Nat.le_of_ble_eq_true rfl, Nat.le_of_ble_eq_true rfl, by decide⟩ (m_blank _) (fun v h2 hv => ?_)
          obtain ⟨rfl, hh2⟩ := hv
          subst h2
          refine xT.s1 hM rfl rfl ?_
          refine xT.br (fun hb3 => ?_) (fun hb3 => ?_)
          · have hnx : ¬ m_hx (x_by gb tp a) = true := by
              rcases hhx with z | z
              · exact z.2
              · rw [z.1] at hb2; exact absurd hb2 (by decide)
            rw [m_qE_n (show m_qS gb tp a = none from by unfold m_qS; rw [if_neg (fun z => z.2.2.elim hnx (x_b00 hb3))]), if_neg hb]
            refine xT.s1 hM rfl rfl ?_
            refine xT.s1 hM rfl rfl ?_
            refine xT.put hM rfl rfl hq (Or.inl rfl) (by rw [hl]; decide) (rfl) (Or.inl rfl) (fun h_6 F_6 eF eh up fb fo fl => ?_)
            replace hX := hX.upd up fl (by decide) fo fb ((fo 7 (by decide)).trans f7) ⟨_, ((fo 8 (by decide)).trans f8)⟩ ⟨_, ((fo 9 (by decide)).trans f9)⟩ ((fo 10 (by decide)).trans f10) ((fo 11 (by decide)).trans f11)
            obtain ⟨⟨hq, hl, f1, f2, f6, f7, ⟨z8, f8⟩, ⟨n9, f9⟩, f10, f11, h8, htp⟩, rest, fr0⟩ := id hX
            replace hI := hI.upd hql up
            exact xT.ret hM rfl rfl rfl rfl ⟨_, rfl, rfl, by omega, by omega, _, _, w, hX, ⟨Or.inl (Or.inr (Or.inl (by decide))), x_w0 hX hq0 hw0, fun z => absurd z (by decide)⟩, by decide, by have := hI.cost; omega, by have := hI.cost; omega, by have := hI.cost; omega⟩
          · have hin : a < tp := x_byIn (fun z => by have q1 := x_b01 hb3; rw [z] at q1; exact absurd q1 (by decide))
            refine xT.s1 hM rfl rfl ?_
            refine xT.s1 hM rfl rfl ?_
            refine xT.brT (hb2) ?_
            exact xT.weak (L := [(2, .int b), (4, .int hx), (3, .int (x_by gb tp a)), (1, .ref sb), (0, .ref q)]) ⟨by simp, by simp⟩ (nxt b c h F qv fs n f hx hin (by unfold m_qS; rw [if_pos ⟨hin, hb, Or.inr (x_b01 hb3)⟩]) (by omega) hI hX)
        · have hin : a < tp ∧ m_hx (x_by gb tp a) = true := by
            rcases hhx with z | z
            · exact absurd z.1 hb2
            · exact z.2
          have hz : m_qS gb tp a = some (a + 1) := by unfold m_qS; rw [if_pos ⟨hin.1, hb, Or.inl hin.2⟩]
          replace hin := hin.1
          refine xT.s1 hM rfl rfl ?_
          refine xT.s1 hM rfl rfl ?_
          refine xT.brF (hb2) ?_
          refine xT.s1 hM rfl rfl ?_
          refine xT.s1 hM rfl rfl ?_
          refine xT.s1 hM rfl rfl ?_
          refine xT.go hM rfl rfl rfl rfl rfl rfl (xc_virt rfl rfl rfl hI.1.1 ⟨rfl, Nat.le_of_ble_eq_true rfl, rfl, Or.inl rfl⟩) rfl ⟨Nat.le_of_ble_eq_true rfl, Nat.le_of_ble_eq_true rfl, by decide⟩ (j_appI hI (by omega) hr (x_by255 hin)) (fun v h2 hv => ?_)
          obtain ⟨rfl, qv', fs', n', f', hI', low⟩ := hv
          replace hX := hX.low hql h8l (Nat.le_refl _) low
          refine xT.s1 hM rfl rfl ?_
          refine xT.s1 hM rfl rfl ?_
          refine xT.s1 hM rfl rfl ?_
          refine xT.s1 hM rfl rfl ?_
          refine xT.br (fun hb3 => ?_) (fun hb3 => ?_)
          · exact xT.weak (L := [(2, .int b), (4, .int hx), (3, .int (x_by gb tp a)), (1, .ref sb), (0, .ref q)]) ⟨by simp, by simp⟩ (nxt b (c + 1) h2 F qv' fs' n' f' hx hin hz (by omega) hI' hX)
          · refine xT.s1 hM rfl rfl ?_
            refine xT.s1 hM rfl rfl ?_
            exact nxt _ (c + 1) h2 F qv' fs' n' f' hx hin hz (by omega) hI' hX
      refine xT.go hM rfl rfl rfl rfl rfl rfl (xc_virt rfl rfl rfl hq ⟨rfl, Nat.le_of_ble_eq_true rfl, rfl, Or.inl rfl⟩) rfl ⟨Nat.le_of_ble_eq_true rfl, Nat.le_of_ble_eq_true rfl, by decide⟩ (m_digit _) (fun v h2 hv => ?_)
      obtain ⟨rfl, hh2⟩ := hv
      subst h2
      refine xT.s1 hM rfl rfl ?_
      refine xT.br (fun hb2 => ?_) (fun hb2 => ?_)
      · have hD := x_b00 hb2
        refine xT.s1 hM rfl rfl ?_
        refine xT.s1 hM rfl rfl ?_
        refine xT.s1 hM rfl rfl ?_
        refine xT.br (fun hb3 => ?_) (fun hb3 => ?_)
        · rw [show (Int8.ofInt 65).toInt32 = 65 from by decide] at hb3
          refine xT.s1 hM rfl rfl ?_
          refine xT.s1 hM rfl rfl ?_
          exact core _ (Or.inl ⟨by decide, by simp [m_hx, hD, Int32.not_le.mpr hb3]⟩)
        · rw [show (Int8.ofInt 65).toInt32 = 65 from by decide] at hb3
          refine xT.s1 hM rfl rfl ?_
          refine xT.s1 hM rfl rfl ?_
          refine xT.s1 hM rfl rfl ?_
          refine xT.br (fun hb4 => ?_) (fun hb4 => ?_)
          · rw [show (Int8.ofInt 70).toInt32 = 70 from by decide] at hb4
            refine xT.s1 hM rfl rfl ?_
            refine xT.s1 hM rfl rfl ?_
            exact core _ (Or.inl ⟨by decide, by simp [m_hx, hD, Int32.not_le.mpr hb4]⟩)
          · rw [show (Int8.ofInt 70).toInt32 = 70 from by decide] at hb4
            refine xT.s1 hM rfl rfl ?_
            refine xT.s1 hM rfl rfl ?_
            refine xT.s1 hM rfl rfl ?_
            exact core _ (Or.inr ⟨by decide, x_byIn (fun z => hb3 (by rw [z]; decide)), by simp [m_hx, Int32.not_lt.mp hb3, Int32.not_lt.mp hb4]⟩)
      · refine xT.s1 hM rfl rfl ?_
        refine xT.s1 hM rfl rfl ?_
        refine xT.s1 hM rfl rfl ?_
        exact core _ (Or.inr ⟨by decide, x_isD_by (x_b01 hb2), by simp [m_hx, x_b01 hb2]⟩)
theorem m_quoted {F : List Value} {h : ab_H} (hX : m_X h0 h q q8 gb F0 F tp fr fr t w) (hN : h.length = h0.length) (hZ : ab_sz h = ab_sz h0) (hq0 : h0[q]? = some (.inr (3, F0))) (hw0 : w = .null ∨ ∃ n, j_str e h0 w n) (hr : x_rm e h0) (hlt : fr < tp) : xT e (d + 6) 23 0 [(0, .ref q)] [] h (fun o h' => ∃ v, o = .inl v ∧ m_LQ e h0 q q8 gb F0 tp fr (m_qE gb tp (fr + 1)) v h') := by
  have hM : (x_mt e.1)[23]? = some xM23 := rfl
  obtain ⟨⟨hq, hl, f1, f2, f6, f7, ⟨z8, f8⟩, ⟨n9, f9⟩, f10, f11, h8, htp⟩, rest, fr0⟩ := id hX
  refine xT.new hM rfl rfl rfl (by have := hr.1; omega) (by have := hr.2; show ab_sz _ + 4 ≤ _; omega) (fun h1 e1 w1 => ?_)
  have s1 : ab_sz h1 = ab_sz _ + 4 := w1.2.2.2
  refine xT.s1 hM rfl rfl ?_
  refine xT.go hM rfl rfl rfl rfl rfl rfl (xc_init rfl rfl rfl ⟨rfl, Nat.le_of_ble_eq_true rfl, rfl, rfl, rfl⟩) rfl ⟨Nat.le_of_ble_eq_true rfl, Nat.le_of_ble_eq_true rfl, by decide⟩ (j_sbInit w1.1 (by have := hr.1; rw [w1.2.2.1]; omega) (by have := hr.2; rw [s1]; omega)) (fun v h2 hv => ?_)
  obtain ⟨rfl, Fb, i1, i2, i3, i4⟩ := hv
  have hI := (j_SI.of (qm := q) (Or.inr trivial) w1 rfl i1 i2 i3 i4).base hN hZ fr0
  have hql : q < h0.length := by have := x_lt hq; omega
  have h8l : q8 < h0.length := by have := x_lt h8; omega
  replace hX := hX.low hql h8l (Nat.le_refl _) (fun k x hk hl => i2 k x (w1.2.1 _ _ hk) (by omega))
  obtain ⟨⟨hq, hl, f1, f2, f6, f7, ⟨z8, f8⟩, ⟨n9, f9⟩, f10, f11, h8, htp⟩, rest, fr0⟩ := id hX
  skip
  refine xT.s1 hM rfl rfl ?_
  refine xT.s1 hM rfl rfl ?_
  refine xT.s1 hM rfl rfl ?_
  refine xT.s1 hM rfl rfl ?_
  refine xT.s1 hM rfl rfl ?_
  refine xT.s2 hM rfl rfl (x2_get rfl (Or.inl rfl) hq f11) ?_
  refine xT.s1 hM rfl rfl ?_
  refine xT.s1 hM rfl rfl ?_
  rw [show nI fr + Int32.ofInt 1 = nI (fr + 1) from nI_add fr 1]
  refine xT.put hM rfl rfl hq (Or.inl rfl) (by rw [hl]; decide) (rfl) (Or.inl rfl) (fun h_1 F_1 eF eh up fb fo fl => ?_)
  replace hX := hX.upd up fl (by decide) fo ((fo 6 (by decide)).trans f6) ((fo 7 (by decide)).trans f7) ⟨_, ((fo 8 (by decide)).trans f8)⟩ ⟨_, ((fo 9 (by decide)).trans f9)⟩ ((fo 10 (by decide)).trans f10) fb
  obtain ⟨⟨hq, hl, f1, f2, f6, f7, ⟨z8, f8⟩, ⟨n9, f9⟩, f10, f11, h8, htp⟩, rest, fr0⟩ := id hX
  replace hI := hI.upd hql up
  exact m_quoLoop hr hq0 hw0 hql h8l htp (tp + 1) (fr + 1) 0 _ _ _ _ _ _ _ hI hX (by omega) (by omega) (by omega) (by omega)
end XQU
