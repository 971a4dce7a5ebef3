/-! the reference: braces -/
section XBR
variable {e : xE} {d q q8 tp fr a o N : Nat} {gb : Nat → Int32} {h : ab_H} {F : List Value} {t : Int32} {w : Value} {p : Int32}
theorem m_br1 {Q : ab_O → ab_H → Prop} (hE : e.1 = .null ∨ ∃ w, e.1 = .float w) (hc : m_ws e) (hP : m_P e h q q8 gb F tp fr a t w (nI o)) (hr : x_rm e h) (K : ∀ (nm od : Int32) (h1 : ab_H) (F1 : List Value), m_P e h1 q q8 gb F1 tp fr a t w (nI o) → m_N h q F (33 * m_res gb tp a) (29 * m_res gb tp a) h1 F1 → (¬ nm = 0 → t = 4) → (¬ od = 0 → t = 5) → xT e (d + 2 * (61 - o) + 13) 32 131 [(10, .int od), (9, .int nm), (0, .ref q), (1, .int p)] [] h1 Q) : xT e (d + 2 * (61 - o) + 13) 32 20 [(0, .ref q), (1, .int p)] [] h Q := by
  have hM : (x_mt e.1)[32]? = some xM32 := rfl
  obtain ⟨⟨⟨hq, hl, f1, f2, f6, f7, ⟨z8, f8⟩, ⟨n9, f9⟩, f10, f11, h8, htp⟩, rest, fr0⟩, hk, hC, p1, p2, p4⟩ := id hP
  have hwc : w = .null ∨ (∃ s, w = .ref s) ∨ ∃ s, w = .float s := by
    rcases hk.2.1 with z | ⟨n, z⟩
    · exact Or.inl z
    · exact Or.inr z.rv
  have hq00 := hq
  rcases hwc with rfl | ⟨sw, rfl⟩ | ⟨sw, rfl⟩
  · refine xT.s1 hM rfl rfl ?_
    refine xT.s2 hM rfl rfl (x2_get rfl (Or.inl rfl) hq f6) ?_
    refine xT.s1 hM rfl rfl ?_
    refine xT.s1 hM rfl rfl ?_
    refine xT.s2 hM rfl rfl (x2_get rfl (Or.inl rfl) hq f11) ?_
    refine xT.s1 hM rfl rfl ?_
    refine xT.s1 hM rfl rfl ?_
    refine xT.s2 hM rfl rfl (x2_get rfl (Or.inl rfl) hq f7) ?_
    refine xT.s1 hM rfl rfl ?_
    refine xT.s1 hM rfl rfl ?_
    refine xT.s2 hM rfl rfl (x2_get rfl (Or.inl rfl) hq f8) ?_
    refine xT.s1 hM rfl rfl ?_
    refine xT.s1 hM rfl rfl ?_
    refine xT.s2 hM rfl rfl (x2_get rfl (Or.inl rfl) hq f10) ?_
    refine xT.s1 hM rfl rfl ?_
    refine xT.s1 hM rfl rfl ?_
    refine xT.s2 hM rfl rfl (x2_get rfl (Or.inl rfl) hq f9) ?_
    refine xT.s1 hM rfl rfl ?_
    refine xT.s1 hM rfl rfl ?_
    refine xT.go hM rfl rfl rfl rfl rfl rfl (xc_virt rfl rfl rfl hq ⟨rfl, Nat.le_of_ble_eq_true rfl, rfl, Or.inl rfl⟩) rfl ⟨Nat.le_of_ble_eq_true rfl, Nat.le_of_ble_eq_true rfl, by decide⟩ (m_adv hE hP hr) (fun v n1 hv => ?_)
    obtain ⟨rfl, fr1, a1, F1, t1, w1, hP1, hN1, q1, q2, q3⟩ := hv
    have j75 : ∀ nm : Int32, (¬ nm = 0 → t = 4) → xT e (d + 2 * (61 - o) + 13) 32 75 [(7, .long n9), (6, .null), (5, .int z8), (4, .int (nI fr)), (3, .int (nI a)), (2, .int t), (0, .ref q), (1, .int p)] [.int nm] n1 Q := by
      intro nm hnm
      refine xT.s1 hM rfl rfl ?_
      have j95 : ∀ od : Int32, (¬ od = 0 → t = 5) → xT e (d + 2 * (61 - o) + 13) 32 95 ((9, .int nm) :: [(7, .long n9), (6, .null), (5, .int z8), (4, .int (nI fr)), (3, .int (nI a)), (2, .int t), (0, .ref q), (1, .int p)]) [.int od] n1 Q := by
        intro od hod
        refine xT.s1 hM rfl rfl ?_
        have hXs := hP1.1
        have hX := hP1.1
        have hNl : n1.length = n1.length := rfl
        obtain ⟨⟨hq, hl, f1, f2, f6, f7, ⟨z18, f8⟩, ⟨n19, f9⟩, f10, f11, h8, htp1⟩, rest, fr0⟩ := id hX
        refine xT.s1 hM rfl rfl ?_
        refine xT.s1 hM rfl rfl ?_
        refine xT.put hM rfl rfl hq (Or.inl rfl) (by rw [hl]; decide) (rfl) (Or.inl rfl) (fun h_1 F_1 eF eh up1 fb fo fl => ?_)
        replace hX := hX.upd up1 fl (by decide) fo ((fo 6 (by decide)).trans f6) ((fo 7 (by decide)).trans f7) ⟨_, ((fo 8 (by decide)).trans f8)⟩ ⟨_, ((fo 9 (by decide)).trans f9)⟩ ((fo 10 (by decide)).trans f10) fb
        obtain ⟨⟨hq, hl, f1, f2, f6, f7, ⟨z11, f8⟩, ⟨n11, f9⟩, f10, f11, h8, htp1⟩, rest, fr0⟩ := id hX
        refine xT.s1 hM rfl rfl ?_
        refine xT.s1 hM rfl rfl ?_
        refine xT.put hM rfl rfl hq (Or.inl rfl) (by rw [hl]; decide) (rfl) (Or.inl rfl) (fun h_2 F_2 eF eh up2 fb fo fl => ?_)
        replace hX := hX.upd up2 fl (by decide) fo ((fo 6 (by decide)).trans f6) fb ⟨_, ((fo 8 (by decide)).trans f8)⟩ ⟨_, ((fo 9 (by decide)).trans f9)⟩ ((fo 10 (by decide)).trans f10) ((fo 11 (by decide)).trans f11)
        obtain ⟨⟨hq, hl, f1, f2, f6, f7, ⟨z12, f8⟩, ⟨n12, f9⟩, f10, f11, h8, htp1⟩, rest, fr0⟩ := id hX
        refine xT.s1 hM rfl rfl ?_
        refine xT.s1 hM rfl rfl ?_
        refine xT.put hM rfl rfl hq (Or.inl rfl) (by rw [hl]; decide) (rfl) (Or.inl rfl) (fun h_3 F_3 eF eh up3 fb fo fl => ?_)
        replace hX := hX.upd up3 fl (by decide) fo ((fo 6 (by decide)).trans f6) ((fo 7 (by decide)).trans f7) ⟨_, fb⟩ ⟨_, ((fo 9 (by decide)).trans f9)⟩ ((fo 10 (by decide)).trans f10) ((fo 11 (by decide)).trans f11)
        obtain ⟨⟨hq, hl, f1, f2, f6, f7, ⟨z13, f8⟩, ⟨n13, f9⟩, f10, f11, h8, htp1⟩, rest, fr0⟩ := id hX
        refine xT.s1 hM rfl rfl ?_
        refine xT.s1 hM rfl rfl ?_
        refine xT.put hM rfl rfl hq (Or.inl rfl) (by rw [hl]; decide) (rfl) (Or.inl rfl) (fun h_4 F_4 eF eh up4 fb fo fl => ?_)
        replace hX := hX.upd up4 fl (by decide) fo ((fo 6 (by decide)).trans f6) ((fo 7 (by decide)).trans f7) ⟨_, ((fo 8 (by decide)).trans f8)⟩ ⟨_, ((fo 9 (by decide)).trans f9)⟩ fb ((fo 11 (by decide)).trans f11)
        obtain ⟨⟨hq, hl, f1, f2, f6, f7, ⟨z14, f8⟩, ⟨n14, f9⟩, f10, f11, h8, htp1⟩, rest, fr0⟩ := id hX
        refine xT.s1 hM rfl rfl ?_
        refine xT.s1 hM rfl rfl ?_
        refine xT.put hM rfl rfl hq (Or.inl rfl) (by rw [hl]; decide) (rfl) (Or.inl rfl) (fun h_5 F_5 eF eh up5 fb fo fl => ?_)
        replace hX := hX.upd up5 fl (by decide) fo ((fo 6 (by decide)).trans f6) ((fo 7 (by decide)).trans f7) ⟨_, ((fo 8 (by decide)).trans f8)⟩ ⟨_, fb⟩ ((fo 10 (by decide)).trans f10) ((fo 11 (by decide)).trans f11)
        obtain ⟨⟨hq, hl, f1, f2, f6, f7, ⟨z15, f8⟩, ⟨n15, f9⟩, f10, f11, h8, htp1⟩, rest, fr0⟩ := id hX
        refine xT.s1 hM rfl rfl ?_
        refine xT.s1 hM rfl rfl ?_
        refine xT.put hM rfl rfl hq (Or.inl rfl) (by rw [hl]; decide) (rfl) (Or.inl rfl) (fun h_6 F_6 eF eh up6 fb fo fl => ?_)
        replace hX := hX.upd up6 fl (by decide) fo fb ((fo 7 (by decide)).trans f7) ⟨_, ((fo 8 (by decide)).trans f8)⟩ ⟨_, ((fo 9 (by decide)).trans f9)⟩ ((fo 10 (by decide)).trans f10) ((fo 11 (by decide)).trans f11)
        obtain ⟨⟨hq, hl, f1, f2, f6, f7, ⟨z16, f8⟩, ⟨n16, f9⟩, f10, f11, h8, htp1⟩, rest, fr0⟩ := id hX
        have lk : h_6.length = n1.length := by rw [up6.2.2.1, up5.2.2.1, up4.2.2.1, up3.2.2.1, up2.2.2.1, up1.2.2.1]
        have sk : ab_sz h_6 = ab_sz n1 := by rw [up6.2.2.2, up5.2.2.2, up4.2.2.2, up3.2.2.2, up2.2.2.2, up1.2.2.2]
        have hPf : m_P e h_6 q q8 gb F_6 tp fr a t .null (nI o) := ⟨hX.self, (hk.kept hN1.2.1 hq00 (by decide)).kept hX.2.2 hP1.cell (by decide), hX.C hP1.cell hP1.2.2.1, p1, p2, (hX.2.1 12 (by omega)).trans hP1.2.2.2.2.2⟩
        have hNf : m_N h q F (33 * m_res gb tp a) (29 * m_res gb tp a) h_6 F_6 := ⟨fun i hi => (hX.2.1 i (by omega)).trans (hN1.1 i hi), fun k x hk hn => hX.2.2 k x (hN1.2.1 k x hk hn) hn, by rw [lk]; exact hN1.2.2.1, by rw [lk]; exact hN1.2.2.2.1, by rw [sk]; exact hN1.2.2.2.2⟩
        exact xT.weak (L := [(10, .int od), (9, .int nm), (0, .ref q), (1, .int p)]) ⟨by simp [ab_put1, x_ci, x_cr, x_cf, x_cn, x_cl2], by simp [ab_put1, x_ci, x_cr, x_cf, x_cn, x_cl2]⟩ (K nm od h_6 F_6 hPf hNf hnm hod)
      refine xT.s1 hM rfl rfl ?_
      refine xT.s1 hM rfl rfl ?_
      refine xT.s1 hM rfl rfl ?_
      refine xT.br (fun b5 => ?_) (fun b5 => ?_)
      · refine xT.s1 hM rfl rfl ?_
        refine xT.s2 hM rfl rfl (x2_get rfl (Or.inl rfl) hP1.cell hP1.1.1.2.2.2.2.1) ?_
        refine xT.s1 hM rfl rfl ?_
        refine xT.s1 hM rfl rfl ?_
        refine xT.br (fun b6 => ?_) (fun b6 => ?_)
        · refine xT.s1 hM rfl rfl ?_
          refine xT.s1 hM rfl rfl ?_
          exact j95 _ (fun _ => by rw [b5]; decide)
        · refine xT.s1 hM rfl rfl ?_
          exact j95 _ (fun z => absurd (show Int32.ofInt 0 = 0 from by decide) z)
      · refine xT.s1 hM rfl rfl ?_
        exact j95 _ (fun z => absurd (show Int32.ofInt 0 = 0 from by decide) z)
    refine xT.s1 hM rfl rfl ?_
    refine xT.s1 hM rfl rfl ?_
    refine xT.s1 hM rfl rfl ?_
    refine xT.br (fun b4 => ?_) (fun b4 => ?_)
    · refine xT.s1 hM rfl rfl ?_
      refine xT.go hM rfl rfl rfl rfl rfl rfl (xc_virt rfl rfl rfl hP1.cell ⟨rfl, Nat.le_of_ble_eq_true rfl, rfl, Or.inl rfl⟩) rfl ⟨Nat.le_of_ble_eq_true rfl, Nat.le_of_ble_eq_true rfl, by decide⟩ (m_begins hP1 hc) (fun v n2 hv => ?_)
      obtain ⟨⟨b, rfl⟩, hh2⟩ := hv
      subst n2
      refine xT.s1 hM rfl rfl ?_
      refine xT.br (fun bb => ?_) (fun bb => ?_)
      · refine xT.s1 hM rfl rfl ?_
        exact j75 _ (fun z => absurd (show Int32.ofInt 0 = 0 from by decide) z)
      · refine xT.s1 hM rfl rfl ?_
        refine xT.s1 hM rfl rfl ?_
        exact j75 _ (fun _ => by rw [b4]; decide)
    · refine xT.s1 hM rfl rfl ?_
      exact j75 _ (fun z => absurd (show Int32.ofInt 0 = 0 from by decide) z)
  · refine xT.s1 hM rfl rfl ?_
    refine xT.s2 hM rfl rfl (x2_get rfl (Or.inl rfl) hq f6) ?_
    refine xT.s1 hM rfl rfl ?_
    refine xT.s1 hM rfl rfl ?_
    refine xT.s2 hM rfl rfl (x2_get rfl (Or.inl rfl) hq f11) ?_
    refine xT.s1 hM rfl rfl ?_
    refine xT.s1 hM rfl rfl ?_
    refine xT.s2 hM rfl rfl (x2_get rfl (Or.inl rfl) hq f7) ?_
    refine xT.s1 hM rfl rfl ?_
    refine xT.s1 hM rfl rfl ?_
    refine xT.s2 hM rfl rfl (x2_get rfl (Or.inl rfl) hq f8) ?_
    refine xT.s1 hM rfl rfl ?_
    refine xT.s1 hM rfl rfl ?_
    refine xT.s2 hM rfl rfl (x2_get rfl (Or.inl rfl) hq f10) ?_
    refine xT.s1 hM rfl rfl ?_
    refine xT.s1 hM rfl rfl ?_
    refine xT.s2 hM rfl rfl (x2_get rfl (Or.inl rfl) hq f9) ?_
    refine xT.s1 hM rfl rfl ?_
    refine xT.s1 hM rfl rfl ?_
    refine xT.go hM rfl rfl rfl rfl rfl rfl (xc_virt rfl rfl rfl hq ⟨rfl, Nat.le_of_ble_eq_true rfl, rfl, Or.inl rfl⟩) rfl ⟨Nat.le_of_ble_eq_true rfl, Nat.le_of_ble_eq_true rfl, by decide⟩ (m_adv hE hP hr) (fun v n1 hv => ?_)
    obtain ⟨rfl, fr1, a1, F1, t1, w1, hP1, hN1, q1, q2, q3⟩ := hv
    have j75 : ∀ nm : Int32, (¬ nm = 0 → t = 4) → xT e (d + 2 * (61 - o) + 13) 32 75 [(7, .long n9), (6, (.ref sw)), (5, .int z8), (4, .int (nI fr)), (3, .int (nI a)), (2, .int t), (0, .ref q), (1, .int p)] [.int nm] n1 Q := by
      intro nm hnm
      refine xT.s1 hM rfl rfl ?_
      have j95 : ∀ od : Int32, (¬ od = 0 → t = 5) → xT e (d + 2 * (61 - o) + 13) 32 95 ((9, .int nm) :: [(7, .long n9), (6, (.ref sw)), (5, .int z8), (4, .int (nI fr)), (3, .int (nI a)), (2, .int t), (0, .ref q), (1, .int p)]) [.int od] n1 Q := by
        intro od hod
        refine xT.s1 hM rfl rfl ?_
        have hXs := hP1.1
        have hX := hP1.1
        have hNl : n1.length = n1.length := rfl
        obtain ⟨⟨hq, hl, f1, f2, f6, f7, ⟨z18, f8⟩, ⟨n19, f9⟩, f10, f11, h8, htp1⟩, rest, fr0⟩ := id hX
        refine xT.s1 hM rfl rfl ?_
        refine xT.s1 hM rfl rfl ?_
        refine xT.put hM rfl rfl hq (Or.inl rfl) (by rw [hl]; decide) (rfl) (Or.inl rfl) (fun h_1 F_1 eF eh up1 fb fo fl => ?_)
        replace hX := hX.upd up1 fl (by decide) fo ((fo 6 (by decide)).trans f6) ((fo 7 (by decide)).trans f7) ⟨_, ((fo 8 (by decide)).trans f8)⟩ ⟨_, ((fo 9 (by decide)).trans f9)⟩ ((fo 10 (by decide)).trans f10) fb
        obtain ⟨⟨hq, hl, f1, f2, f6, f7, ⟨z11, f8⟩, ⟨n11, f9⟩, f10, f11, h8, htp1⟩, rest, fr0⟩ := id hX
        refine xT.s1 hM rfl rfl ?_
        refine xT.s1 hM rfl rfl ?_
        refine xT.put hM rfl rfl hq (Or.inl rfl) (by rw [hl]; decide) (rfl) (Or.inl rfl) (fun h_2 F_2 eF eh up2 fb fo fl => ?_)
        replace hX := hX.upd up2 fl (by decide) fo ((fo 6 (by decide)).trans f6) fb ⟨_, ((fo 8 (by decide)).trans f8)⟩ ⟨_, ((fo 9 (by decide)).trans f9)⟩ ((fo 10 (by decide)).trans f10) ((fo 11 (by decide)).trans f11)
        obtain ⟨⟨hq, hl, f1, f2, f6, f7, ⟨z12, f8⟩, ⟨n12, f9⟩, f10, f11, h8, htp1⟩, rest, fr0⟩ := id hX
        refine xT.s1 hM rfl rfl ?_
        refine xT.s1 hM rfl rfl ?_
        refine xT.put hM rfl rfl hq (Or.inl rfl) (by rw [hl]; decide) (rfl) (Or.inl rfl) (fun h_3 F_3 eF eh up3 fb fo fl => ?_)
        replace hX := hX.upd up3 fl (by decide) fo ((fo 6 (by decide)).trans f6) ((fo 7 (by decide)).trans f7) ⟨_, fb⟩ ⟨_, ((fo 9 (by decide)).trans f9)⟩ ((fo 10 (by decide)).trans f10) ((fo 11 (by decide)).trans f11)
        obtain ⟨⟨hq, hl, f1, f2, f6, f7, ⟨z13, f8⟩, ⟨n13, f9⟩, f10, f11, h8, htp1⟩, rest, fr0⟩ := id hX
        refine xT.s1 hM rfl rfl ?_
        refine xT.s1 hM rfl rfl ?_
        refine xT.put hM rfl rfl hq (Or.inl rfl) (by rw [hl]; decide) (rfl) (Or.inl rfl) (fun h_4 F_4 eF eh up4 fb fo fl => ?_)
        replace hX := hX.upd up4 fl (by decide) fo ((fo 6 (by decide)).trans f6) ((fo 7 (by decide)).trans f7) ⟨_, ((fo 8 (by decide)).trans f8)⟩ ⟨_, ((fo 9 (by decide)).trans f9)⟩ fb ((fo 11 (by decide)).trans f11)
        obtain ⟨⟨hq, hl, f1, f2, f6, f7, ⟨z14, f8⟩, ⟨n14, f9⟩, f10, f11, h8, htp1⟩, rest, fr0⟩ := id hX
        refine xT.s1 hM rfl rfl ?_
        refine xT.s1 hM rfl rfl ?_
        refine xT.put hM rfl rfl hq (Or.inl rfl) (by rw [hl]; decide) (rfl) (Or.inl rfl) (fun h_5 F_5 eF eh up5 fb fo fl => ?_)
        replace hX := hX.upd up5 fl (by decide) fo ((fo 6 (by decide)).trans f6) ((fo 7 (by decide)).trans f7) ⟨_, ((fo 8 (by decide)).trans f8)⟩ ⟨_, fb⟩ ((fo 10 (by decide)).trans f10) ((fo 11 (by decide)).trans f11)
        obtain ⟨⟨hq, hl, f1, f2, f6, f7, ⟨z15, f8⟩, ⟨n15, f9⟩, f10, f11, h8, htp1⟩, rest, fr0⟩ := id hX
        refine xT.s1 hM rfl rfl ?_
        refine xT.s1 hM rfl rfl ?_
        refine xT.put hM rfl rfl hq (Or.inl rfl) (by rw [hl]; decide) (rfl) (Or.inl rfl) (fun h_6 F_6 eF eh up6 fb fo fl => ?_)
        replace hX := hX.upd up6 fl (by decide) fo fb ((fo 7 (by decide)).trans f7) ⟨_, ((fo 8 (by decide)).trans f8)⟩ ⟨_, ((fo 9 (by decide)).trans f9)⟩ ((fo 10 (by decide)).trans f10) ((fo 11 (by decide)).trans f11)
        obtain ⟨⟨hq, hl, f1, f2, f6, f7, ⟨z16, f8⟩, ⟨n16, f9⟩, f10, f11, h8, htp1⟩, rest, fr0⟩ := id hX
        have lk : h_6.length = n1.length := by rw [up6.2.2.1, up5.2.2.1, up4.2.2.1, up3.2.2.1, up2.2.2.1, up1.2.2.1]
        have sk : ab_sz h_6 = ab_sz n1 := by rw [up6.2.2.2, up5.2.2.2, up4.2.2.2, up3.2.2.2, up2.2.2.2, up1.2.2.2]
        have hPf : m_P e h_6 q q8 gb F_6 tp fr a t (.ref sw) (nI o) := ⟨hX.self, (hk.kept hN1.2.1 hq00 (by decide)).kept hX.2.2 hP1.cell (by decide), hX.C hP1.cell hP1.2.2.1, p1, p2, (hX.2.1 12 (by omega)).trans hP1.2.2.2.2.2⟩
        have hNf : m_N h q F (33 * m_res gb tp a) (29 * m_res gb tp a) h_6 F_6 := ⟨fun i hi => (hX.2.1 i (by omega)).trans (hN1.1 i hi), fun k x hk hn => hX.2.2 k x (hN1.2.1 k x hk hn) hn, by rw [lk]; exact hN1.2.2.1, by rw [lk]; exact hN1.2.2.2.1, by rw [sk]; exact hN1.2.2.2.2⟩
        exact xT.weak (L := [(10, .int od), (9, .int nm), (0, .ref q), (1, .int p)]) ⟨by simp [ab_put1, x_ci, x_cr, x_cf, x_cn, x_cl2], by simp [ab_put1, x_ci, x_cr, x_cf, x_cn, x_cl2]⟩ (K nm od h_6 F_6 hPf hNf hnm hod)
      refine xT.s1 hM rfl rfl ?_
      refine xT.s1 hM rfl rfl ?_
      refine xT.s1 hM rfl rfl ?_
      refine xT.br (fun b5 => ?_) (fun b5 => ?_)
      · refine xT.s1 hM rfl rfl ?_
        refine xT.s2 hM rfl rfl (x2_get rfl (Or.inl rfl) hP1.cell hP1.1.1.2.2.2.2.1) ?_
        refine xT.s1 hM rfl rfl ?_
        refine xT.s1 hM rfl rfl ?_
        refine xT.br (fun b6 => ?_) (fun b6 => ?_)
        · refine xT.s1 hM rfl rfl ?_
          refine xT.s1 hM rfl rfl ?_
          exact j95 _ (fun _ => by rw [b5]; decide)
        · refine xT.s1 hM rfl rfl ?_
          exact j95 _ (fun z => absurd (show Int32.ofInt 0 = 0 from by decide) z)
      · refine xT.s1 hM rfl rfl ?_
        exact j95 _ (fun z => absurd (show Int32.ofInt 0 = 0 from by decide) z)
    refine xT.s1 hM rfl rfl ?_
    refine xT.s1 hM rfl rfl ?_
    refine xT.s1 hM rfl rfl ?_
    refine xT.br (fun b4 => ?_) (fun b4 => ?_)
    · refine xT.s1 hM rfl rfl ?_
      refine xT.go hM rfl rfl rfl rfl rfl rfl (xc_virt rfl rfl rfl hP1.cell ⟨rfl, Nat.le_of_ble_eq_true rfl, rfl, Or.inl rfl⟩) rfl ⟨Nat.le_of_ble_eq_true rfl, Nat.le_of_ble_eq_true rfl, by decide⟩ (m_begins hP1 hc) (fun v n2 hv => ?_)
      obtain ⟨⟨b, rfl⟩, hh2⟩ := hv
      subst n2
      refine xT.s1 hM rfl rfl ?_
      refine xT.br (fun bb => ?_) (fun bb => ?_)
      · refine xT.s1 hM rfl rfl ?_
        exact j75 _ (fun z => absurd (show Int32.ofInt 0 = 0 from by decide) z)
      · refine xT.s1 hM rfl rfl ?_
        refine xT.s1 hM rfl rfl ?_
        exact j75 _ (fun _ => by rw [b4]; decide)
    · refine xT.s1 hM rfl rfl ?_
      exact j75 _ (fun z => absurd (show Int32.ofInt 0 = 0 from by decide) z)
  · refine xT.s1 hM rfl rfl ?_
    refine xT.s2 hM rfl rfl (x2_get rfl (Or.inl rfl) hq f6) ?_
    refine xT.s1 hM rfl rfl ?_
    refine xT.s1 hM rfl rfl ?_
    refine xT.s2 hM rfl rfl (x2_get rfl (Or.inl rfl) hq f11) ?_
    refine xT.s1 hM rfl rfl ?_
    refine xT.s1 hM rfl rfl ?_
    refine xT.s2 hM rfl rfl (x2_get rfl (Or.inl rfl) hq f7) ?_
    refine xT.s1 hM rfl rfl ?_
    refine xT.s1 hM rfl rfl ?_
    refine xT.s2 hM rfl rfl (x2_get rfl (Or.inl rfl) hq f8) ?_
    refine xT.s1 hM rfl rfl ?_
    refine xT.s1 hM rfl rfl ?_
    refine xT.s2 hM rfl rfl (x2_get rfl (Or.inl rfl) hq f10) ?_
    refine xT.s1 hM rfl rfl ?_
    refine xT.s1 hM rfl rfl ?_
    refine xT.s2 hM rfl rfl (x2_get rfl (Or.inl rfl) hq f9) ?_
    refine xT.s1 hM rfl rfl ?_
    refine xT.s1 hM rfl rfl ?_
    refine xT.go hM rfl rfl rfl rfl rfl rfl (xc_virt rfl rfl rfl hq ⟨rfl, Nat.le_of_ble_eq_true rfl, rfl, Or.inl rfl⟩) rfl ⟨Nat.le_of_ble_eq_true rfl, Nat.le_of_ble_eq_true rfl, by decide⟩ (m_adv hE hP hr) (fun v n1 hv => ?_)
    obtain ⟨rfl, fr1, a1, F1, t1, w1, hP1, hN1, q1, q2, q3⟩ := hv
    have j75 : ∀ nm : Int32, (¬ nm = 0 → t = 4) → xT e (d + 2 * (61 - o) + 13) 32 75 [(7, .long n9), (6, (.float sw)), (5, .int z8), (4, .int (nI fr)), (3, .int (nI a)), (2, .int t), (0, .ref q), (1, .int p)] [.int nm] n1 Q := by
      intro nm hnm
      refine xT.s1 hM rfl rfl ?_
      have j95 : ∀ od : Int32, (¬ od = 0 → t = 5) → xT e (d + 2 * (61 - o) + 13) 32 95 ((9, .int nm) :: [(7, .long n9), (6, (.float sw)), (5, .int z8), (4, .int (nI fr)), (3, .int (nI a)), (2, .int t), (0, .ref q), (1, .int p)]) [.int od] n1 Q := by
        intro od hod
        refine xT.s1 hM rfl rfl ?_
        have hXs := hP1.1
        have hX := hP1.1
        have hNl : n1.length = n1.length := rfl
        obtain ⟨⟨hq, hl, f1, f2, f6, f7, ⟨z18, f8⟩, ⟨n19, f9⟩, f10, f11, h8, htp1⟩, rest, fr0⟩ := id hX
        refine xT.s1 hM rfl rfl ?_
        refine xT.s1 hM rfl rfl ?_
        refine xT.put hM rfl rfl hq (Or.inl rfl) (by rw [hl]; decide) (rfl) (Or.inl rfl) (fun h_1 F_1 eF eh up1 fb fo fl => ?_)
        replace hX := hX.upd up1 fl (by decide) fo ((fo 6 (by decide)).trans f6) ((fo 7 (by decide)).trans f7) ⟨_, ((fo 8 (by decide)).trans f8)⟩ ⟨_, ((fo 9 (by decide)).trans f9)⟩ ((fo 10 (by decide)).trans f10) fb
        obtain ⟨⟨hq, hl, f1, f2, f6, f7, ⟨z11, f8⟩, ⟨n11, f9⟩, f10, f11, h8, htp1⟩, rest, fr0⟩ := id hX
        refine xT.s1 hM rfl rfl ?_
        refine xT.s1 hM rfl rfl ?_
        refine xT.put hM rfl rfl hq (Or.inl rfl) (by rw [hl]; decide) (rfl) (Or.inl rfl) (fun h_2 F_2 eF eh up2 fb fo fl => ?_)
        replace hX := hX.upd up2 fl (by decide) fo ((fo 6 (by decide)).trans f6) fb ⟨_, ((fo 8 (by decide)).trans f8)⟩ ⟨_, ((fo 9 (by decide)).trans f9)⟩ ((fo 10 (by decide)).trans f10) ((fo 11 (by decide)).trans f11)
        obtain ⟨⟨hq, hl, f1, f2, f6, f7, ⟨z12, f8⟩, ⟨n12, f9⟩, f10, f11, h8, htp1⟩, rest, fr0⟩ := id hX
        refine xT.s1 hM rfl rfl ?_
        refine xT.s1 hM rfl rfl ?_
        refine xT.put hM rfl rfl hq (Or.inl rfl) (by rw [hl]; decide) (rfl) (Or.inl rfl) (fun h_3 F_3 eF eh up3 fb fo fl => ?_)
        replace hX := hX.upd up3 fl (by decide) fo ((fo 6 (by decide)).trans f6) ((fo 7 (by decide)).trans f7) ⟨_, fb⟩ ⟨_, ((fo 9 (by decide)).trans f9)⟩ ((fo 10 (by decide)).trans f10) ((fo 11 (by decide)).trans f11)
        obtain ⟨⟨hq, hl, f1, f2, f6, f7, ⟨z13, f8⟩, ⟨n13, f9⟩, f10, f11, h8, htp1⟩, rest, fr0⟩ := id hX
        refine xT.s1 hM rfl rfl ?_
        refine xT.s1 hM rfl rfl ?_
        refine xT.put hM rfl rfl hq (Or.inl rfl) (by rw [hl]; decide) (rfl) (Or.inl rfl) (fun h_4 F_4 eF eh up4 fb fo fl => ?_)
        replace hX := hX.upd up4 fl (by decide) fo ((fo 6 (by decide)).trans f6) ((fo 7 (by decide)).trans f7) ⟨_, ((fo 8 (by decide)).trans f8)⟩ ⟨_, ((fo 9 (by decide)).trans f9)⟩ fb ((fo 11 (by decide)).trans f11)
        obtain ⟨⟨hq, hl, f1, f2, f6, f7, ⟨z14, f8⟩, ⟨n14, f9⟩, f10, f11, h8, htp1⟩, rest, fr0⟩ := id hX
        refine xT.s1 hM rfl rfl ?_
        refine xT.s1 hM rfl rfl ?_
        refine xT.put hM rfl rfl hq (Or.inl rfl) (by rw [hl]; decide) (rfl) (Or.inl rfl) (fun h_5 F_5 eF eh up5 fb fo fl => ?_)
        replace hX := hX.upd up5 fl (by decide) fo ((fo 6 (by decide)).trans f6) ((fo 7 (by decide)).trans f7) ⟨_, ((fo 8 (by decide)).trans f8)⟩ ⟨_, fb⟩ ((fo 10 (by decide)).trans f10) ((fo 11 (by decide)).trans f11)
        obtain ⟨⟨hq, hl, f1, f2, f6, f7, ⟨z15, f8⟩, ⟨n15, f9⟩, f10, f11, h8, htp1⟩, rest, fr0⟩ := id hX
        refine xT.s1 hM rfl rfl ?_
        refine xT.s1 hM rfl rfl ?_
        refine xT.put hM rfl rfl hq (Or.inl rfl) (by rw [hl]; decide) (rfl) (Or.inl rfl) (fun h_6 F_6 eF eh up6 fb fo fl => ?_)
        replace hX := hX.upd up6 fl (by decide) fo fb ((fo 7 (by decide)).trans f7) ⟨_, ((fo 8 (by decide)).trans f8)⟩ ⟨_, ((fo 9 (by decide)).trans f9)⟩ ((fo 10 (by decide)).trans f10) ((fo 11 (by decide)).trans f11)
        obtain ⟨⟨hq, hl, f1, f2, f6, f7, ⟨z16, f8⟩, ⟨n16, f9⟩, f10, f11, h8, htp1⟩, rest, fr0⟩ := id hX
        have lk : h_6.length = n1.length := by rw [up6.2.2.1, up5.2.2.1, up4.2.2.1, up3.2.2.1, up2.2.2.1, up1.2.2.1]
        have sk : ab_sz h_6 = ab_sz n1 := by rw [up6.2.2.2, up5.2.2.2, up4.2.2.2, up3.2.2.2, up2.2.2.2, up1.2.2.2]
        have hPf : m_P e h_6 q q8 gb F_6 tp fr a t (.float sw) (nI o) := ⟨hX.self, (hk.kept hN1.2.1 hq00 (by decide)).kept hX.2.2 hP1.cell (by decide), hX.C hP1.cell hP1.2.2.1, p1, p2, (hX.2.1 12 (by omega)).trans hP1.2.2.2.2.2⟩
        have hNf : m_N h q F (33 * m_res gb tp a) (29 * m_res gb tp a) h_6 F_6 := ⟨fun i hi => (hX.2.1 i (by omega)).trans (hN1.1 i hi), fun k x hk hn => hX.2.2 k x (hN1.2.1 k x hk hn) hn, by rw [lk]; exact hN1.2.2.1, by rw [lk]; exact hN1.2.2.2.1, by rw [sk]; exact hN1.2.2.2.2⟩
        exact xT.weak (L := [(10, .int od), (9, .int nm), (0, .ref q), (1, .int p)]) ⟨by simp [ab_put1, x_ci, x_cr, x_cf, x_cn, x_cl2], by simp [ab_put1, x_ci, x_cr, x_cf, x_cn, x_cl2]⟩ (K nm od h_6 F_6 hPf hNf hnm hod)
      refine xT.s1 hM rfl rfl ?_
      refine xT.s1 hM rfl rfl ?_
      refine xT.s1 hM rfl rfl ?_
      refine xT.br (fun b5 => ?_) (fun b5 => ?_)
      · refine xT.s1 hM rfl rfl ?_
        refine xT.s2 hM rfl rfl (x2_get rfl (Or.inl rfl) hP1.cell hP1.1.1.2.2.2.2.1) ?_
        refine xT.s1 hM rfl rfl ?_
        refine xT.s1 hM rfl rfl ?_
        refine xT.br (fun b6 => ?_) (fun b6 => ?_)
        · refine xT.s1 hM rfl rfl ?_
          refine xT.s1 hM rfl rfl ?_
          exact j95 _ (fun _ => by rw [b5]; decide)
        · refine xT.s1 hM rfl rfl ?_
          exact j95 _ (fun z => absurd (show Int32.ofInt 0 = 0 from by decide) z)
      · refine xT.s1 hM rfl rfl ?_
        exact j95 _ (fun z => absurd (show Int32.ofInt 0 = 0 from by decide) z)
    refine xT.s1 hM rfl rfl ?_
    refine xT.s1 hM rfl rfl ?_
    refine xT.s1 hM rfl rfl ?_
    refine xT.br (fun b4 => ?_) (fun b4 => ?_)
    · refine xT.s1 hM rfl rfl ?_
      refine xT.go hM rfl rfl rfl rfl rfl rfl (xc_virt rfl rfl rfl hP1.cell ⟨rfl, Nat.le_of_ble_eq_true rfl, rfl, Or.inl rfl⟩) rfl ⟨Nat.le_of_ble_eq_true rfl, Nat.le_of_ble_eq_true rfl, by decide⟩ (m_begins hP1 hc) (fun v n2 hv => ?_)
      obtain ⟨⟨b, rfl⟩, hh2⟩ := hv
      subst n2
      refine xT.s1 hM rfl rfl ?_
      refine xT.br (fun bb => ?_) (fun bb => ?_)
      · refine xT.s1 hM rfl rfl ?_
        exact j75 _ (fun z => absurd (show Int32.ofInt 0 = 0 from by decide) z)
      · refine xT.s1 hM rfl rfl ?_
        refine xT.s1 hM rfl rfl ?_
        exact j75 _ (fun _ => by rw [b4]; decide)
    · refine xT.s1 hM rfl rfl ?_
      exact j75 _ (fun z => absurd (show Int32.ofInt 0 = 0 from by decide) z)
end XBR
