/-! the reference: numbers, with the token's kind -/
section XNB
variable {e : xE} {d q q8 tp fr : Nat} {gb : Nat → Int32} {h0 : ab_H} {F0 : List Value} {t : Int32} {w : Value}
theorem x_w0 {h : ab_H} {F : List Value} {a : Nat} (hX : m_X h0 h q q8 gb F0 F tp fr a t w) (hq0 : h0[q]? = some (.inr (3, F0))) (hw0 : w = .null ∨ ∃ n, j_str e h0 w n) : w = .null ∨ ∃ n, j_str e h w n := by
  rcases hw0 with z | ⟨n, z⟩
  · exact Or.inl z
  · exact Or.inr ⟨n, z.kept hX.2.2 hq0 (by decide)⟩
theorem m_numLoop2 {Q : ab_O → ab_H → Prop} : ∀ (m a : Nat) (F : List Value) (t : Int32) (h : ab_H), m_X h0 h q q8 gb F0 F tp fr a t w → h.length = h0.length → ab_sz h = ab_sz h0 → tp - a < m → a ≤ tp → (t = 1 ∨ t = 5) → (∀ (a' : Nat) (F' : List Value) (t' : Int32) (h' : ab_H), m_X h0 h' q q8 gb F0 F' tp fr a' t' w → h'.length = h0.length → ab_sz h' = ab_sz h0 → a ≤ a' → a' ≤ tp → (t' = 1 ∨ t' = 5) → (x_isD (x_by gb tp a) = true → a < a') → xT e (d + 1) 21 88 [(0, .ref q)] [] h' Q) → xT e (d + 1) 21 10 [(0, .ref q)] [] h Q := by
  have hM : (x_mt e.1)[21]? = some xM21 := rfl
  intro m
  induction m with
  | zero => intro a F t h hX hN hZ m1; omega
  | succ m ih =>
    intro a F t h hX hN hZ m1 m2 ht k
    obtain ⟨⟨hq, hl, f1, f2, f6, f7, ⟨z8, f8⟩, ⟨n9, f9⟩, f10, f11, h8, htp⟩, rest, fr0⟩ := id hX
    refine xT.s1 hM rfl rfl ?_
    refine xT.s1 hM rfl rfl ?_
    refine xT.s1 hM rfl rfl ?_
    refine xT.s2 hM rfl rfl (x2_get rfl (Or.inl rfl) hq f11) ?_
    refine xT.go hM rfl rfl rfl rfl rfl rfl (xc_virt rfl rfl rfl hq ⟨rfl, Nat.le_of_ble_eq_true rfl, rfl, Or.inl rfl⟩) rfl ⟨Nat.le_of_ble_eq_true rfl, Nat.le_of_ble_eq_true rfl, by decide⟩ (m_byteAt hX.S (k := a) (by omega)) (fun v h2 hv => ?_)
    obtain ⟨rfl, hh2⟩ := hv
    subst h2
    refine xT.go hM rfl rfl rfl rfl rfl rfl (xc_virt rfl rfl rfl hq ⟨rfl, Nat.le_of_ble_eq_true rfl, rfl, Or.inl rfl⟩) rfl ⟨Nat.le_of_ble_eq_true rfl, Nat.le_of_ble_eq_true rfl, by decide⟩ (m_digit _) (fun v h2 hv => ?_)
    obtain ⟨rfl, hh2⟩ := hv
    subst h2
    refine xT.s1 hM rfl rfl ?_
    refine xT.br (fun hb => ?_) (fun hb => ?_)
    · exact k a F t h hX hN hZ (Nat.le_refl _) m2 ht (fun z => absurd z (x_b00 hb))
    · have hlt := x_isD_by (x_b01 hb)
      refine xT.s1 hM rfl rfl ?_
      refine xT.s1 hM rfl rfl ?_
      refine xT.s2 hM rfl rfl (x2_get rfl (Or.inl rfl) hq f11) ?_
      refine xT.go hM rfl rfl rfl rfl rfl rfl (xc_virt rfl rfl rfl hq ⟨rfl, Nat.le_of_ble_eq_true rfl, rfl, Or.inl rfl⟩) rfl ⟨Nat.le_of_ble_eq_true rfl, Nat.le_of_ble_eq_true rfl, by decide⟩ (m_byteAt hX.S (k := a) (by omega)) (fun v h2 hv => ?_)
      obtain ⟨rfl, hh2⟩ := hv
      subst h2
      refine xT.s1 hM rfl rfl ?_
      refine xT.s1 hM rfl rfl ?_
      generalize x_by gb tp a - (Int8.ofInt 48).toInt32 = dg
      refine xT.s1 hM rfl rfl ?_
      refine xT.s1 hM rfl rfl ?_
      refine xT.s2 hM rfl rfl (x2_get rfl (Or.inl rfl) hq f9) ?_
      refine xT.s2 hM rfl rfl rfl ?_
      refine xT.s1 hM rfl rfl ?_
      refine xT.s1 hM rfl rfl ?_
      refine xT.s1 hM rfl rfl ?_
      refine xT.s2 hM rfl rfl rfl ?_
      refine xT.s1 hM rfl rfl ?_
      refine xT.s1 hM rfl rfl ?_
      have step : ∀ (F : List Value) (t : Int32) (h : ab_H), m_X h0 h q q8 gb F0 F tp fr a t w → h.length = h0.length → ab_sz h = ab_sz h0 → (t = 1 ∨ t = 5) → xT e (d + 1) 21 60 [(1, .int dg), (0, .ref q)] [] h Q := by
        intro F t h hX hN hZ ht
        obtain ⟨⟨hq, hl, f1, f2, f6, f7, ⟨z8, f8⟩, ⟨n9, f9⟩, f10, f11, h8, htp⟩, rest, fr0⟩ := id hX
        refine xT.s1 hM rfl rfl ?_
        refine xT.s2 hM rfl rfl rfl ?_
        refine xT.s1 hM rfl rfl ?_
        refine xT.s2 hM rfl rfl (x2_get rfl (Or.inl rfl) hq f9) ?_
        refine xT.s1 hM rfl rfl ?_
        refine xT.s1 hM rfl rfl ?_
        refine xT.s1 hM rfl rfl ?_
        refine xT.s1 hM rfl rfl ?_
        refine xT.put hM rfl rfl hq (Or.inl rfl) (by rw [hl]; decide) (rfl) (Or.inl rfl) (fun h_1 F_1 eF eh up fb fo fl => ?_)
        replace hX := hX.upd up fl (by decide) fo ((fo 6 (by decide)).trans f6) ((fo 7 (by decide)).trans f7) ⟨_, ((fo 8 (by decide)).trans f8)⟩ ⟨_, fb⟩ ((fo 10 (by decide)).trans f10) ((fo 11 (by decide)).trans f11)
        obtain ⟨⟨hq, hl, f1, f2, f6, f7, ⟨z8, f8⟩, ⟨n9, f9⟩, f10, f11, h8, htp⟩, rest, fr0⟩ := id hX
        replace hN := up.2.2.1.trans hN
        replace hZ := up.2.2.2.trans hZ
        refine xT.s1 hM rfl rfl ?_
        refine xT.s1 hM rfl rfl ?_
        refine xT.s2 hM rfl rfl (x2_get rfl (Or.inl rfl) hq f11) ?_
        refine xT.s1 hM rfl rfl ?_
        refine xT.s1 hM rfl rfl ?_
        rw [show nI a + Int32.ofInt 1 = nI (a + 1) from nI_add a 1]
        refine xT.put hM rfl rfl hq (Or.inl rfl) (by rw [hl]; decide) (rfl) (Or.inl rfl) (fun h_2 F_2 eF eh up fb fo fl => ?_)
        replace hX := hX.upd up fl (by decide) fo ((fo 6 (by decide)).trans f6) ((fo 7 (by decide)).trans f7) ⟨_, ((fo 8 (by decide)).trans f8)⟩ ⟨_, ((fo 9 (by decide)).trans f9)⟩ ((fo 10 (by decide)).trans f10) fb
        obtain ⟨⟨hq, hl, f1, f2, f6, f7, ⟨z8, f8⟩, ⟨n9, f9⟩, f10, f11, h8, htp⟩, rest, fr0⟩ := id hX
        replace hN := up.2.2.1.trans hN
        replace hZ := up.2.2.2.trans hZ
        refine xT.s1 hM rfl rfl ?_
        exact xT.weak (L := [(0, .ref q)]) ⟨by simp, by simp⟩ (ih (a + 1) _ _ _ hX hN hZ (by omega) (by omega) ht (fun a' F' t' h' w1 w2 w3 w4 w5 w6 w7 => k a' F' t' h' w1 w2 w3 (by omega) w5 w6 (fun _ => by omega)))
      refine xT.s1 hM rfl rfl ?_
      refine xT.br (fun hb2 => ?_) (fun hb2 => ?_)
      · exact step F t h hX hN hZ ht
      · refine xT.s1 hM rfl rfl ?_
        refine xT.s1 hM rfl rfl ?_
        refine xT.put hM rfl rfl hq (Or.inl rfl) (by rw [hl]; decide) (rfl) (Or.inl rfl) (fun h_3 F_3 eF eh up fb fo fl => ?_)
        replace hX := hX.upd up fl (by decide) fo fb ((fo 7 (by decide)).trans f7) ⟨_, ((fo 8 (by decide)).trans f8)⟩ ⟨_, ((fo 9 (by decide)).trans f9)⟩ ((fo 10 (by decide)).trans f10) ((fo 11 (by decide)).trans f11)
        obtain ⟨⟨hq, hl, f1, f2, f6, f7, ⟨z8, f8⟩, ⟨n9, f9⟩, f10, f11, h8, htp⟩, rest, fr0⟩ := id hX
        replace hN := up.2.2.1.trans hN
        replace hZ := up.2.2.2.trans hZ
        exact step _ _ _ hX hN hZ (Or.inl (by decide))
theorem m_num {F : List Value} {h : ab_H} (hX : m_X h0 h q q8 gb F0 F tp fr fr t w) (hN : h.length = h0.length) (hZ : ab_sz h = ab_sz h0) (hq0 : h0[q]? = some (.inr (3, F0))) (hw0 : w = .null ∨ ∃ n, j_str e h0 w n) (hr : x_rm e h0) (hlt : fr < tp) (hdig : x_isD (x_by gb tp fr) = true) : xT e (d + 1) 21 0 [(0, .ref q)] [] h (fun o h' => ∃ v, o = .inl v ∧ v = none ∧ ∃ (a' : Nat) (F' : List Value) (t' : Int32), m_X h0 h' q q8 gb F0 F' tp fr a' t' w ∧ fr < a' ∧ a' ≤ tp ∧ (t' = 1 ∨ t' = 5) ∧ h'.length = h0.length ∧ ab_sz h' = ab_sz h0) := by
  have hM : (x_mt e.1)[21]? = some xM21 := rfl
  obtain ⟨⟨hq, hl, f1, f2, f6, f7, ⟨z8, f8⟩, ⟨n9, f9⟩, f10, f11, h8, htp⟩, rest, fr0⟩ := id hX
  refine xT.s1 hM rfl rfl ?_
  refine xT.s1 hM rfl rfl ?_
  refine xT.put hM rfl rfl hq (Or.inl rfl) (by rw [hl]; decide) (rfl) (Or.inl rfl) (fun h_1 F_1 eF eh up fb fo fl => ?_)
  replace hX := hX.upd up fl (by decide) fo fb ((fo 7 (by decide)).trans f7) ⟨_, ((fo 8 (by decide)).trans f8)⟩ ⟨_, ((fo 9 (by decide)).trans f9)⟩ ((fo 10 (by decide)).trans f10) ((fo 11 (by decide)).trans f11)
  obtain ⟨⟨hq, hl, f1, f2, f6, f7, ⟨z8, f8⟩, ⟨n9, f9⟩, f10, f11, h8, htp⟩, rest, fr0⟩ := id hX
  replace hN := up.2.2.1.trans hN
  replace hZ := up.2.2.2.trans hZ
  refine xT.s1 hM rfl rfl ?_
  refine xT.s1 hM rfl rfl ?_
  refine xT.put hM rfl rfl hq (Or.inl rfl) (by rw [hl]; decide) (rfl) (Or.inl rfl) (fun h_2 F_2 eF eh up fb fo fl => ?_)
  replace hX := hX.upd up fl (by decide) fo ((fo 6 (by decide)).trans f6) ((fo 7 (by decide)).trans f7) ⟨_, ((fo 8 (by decide)).trans f8)⟩ ⟨_, fb⟩ ((fo 10 (by decide)).trans f10) ((fo 11 (by decide)).trans f11)
  obtain ⟨⟨hq, hl, f1, f2, f6, f7, ⟨z8, f8⟩, ⟨n9, f9⟩, f10, f11, h8, htp⟩, rest, fr0⟩ := id hX
  replace hN := up.2.2.1.trans hN
  replace hZ := up.2.2.2.trans hZ
  refine m_numLoop2 (tp - fr + 1) fr _ _ _ hX hN hZ (by omega) (by omega) (Or.inr (by decide)) (fun a F t h hX hN hZ w1 w2 ht w3 => ?_)
  have hfa : fr < a := w3 hdig
  obtain ⟨⟨hq, hl, f1, f2, f6, f7, ⟨z8, f8⟩, ⟨n9, f9⟩, f10, f11, h8, htp⟩, rest, fr0⟩ := id hX
  have fin : ∀ (F : List Value) (t : Int32) (h : ab_H), m_X h0 h q q8 gb F0 F tp fr a t w → h.length = h0.length → ab_sz h = ab_sz h0 → (t = 1 ∨ t = 5) → xT e (d + 1) 21 119 [(0, .ref q)] [] h (fun o h' => ∃ v, o = .inl v ∧ v = none ∧ ∃ (a' : Nat) (F' : List Value) (t' : Int32), m_X h0 h' q q8 gb F0 F' tp fr a' t' w ∧ fr < a' ∧ a' ≤ tp ∧ (t' = 1 ∨ t' = 5) ∧ h'.length = h0.length ∧ ab_sz h' = ab_sz h0) := fun F t h hX hN hZ ht => xT.ret hM rfl rfl rfl rfl ⟨_, rfl, rfl, a, F, t, hX, hfa, w2, ht, hN, hZ⟩
  refine xT.s1 hM rfl rfl ?_
  refine xT.s1 hM rfl rfl ?_
  refine xT.s2 hM rfl rfl (x2_get rfl (Or.inl rfl) hq f7) ?_
  refine xT.go hM rfl rfl rfl rfl rfl rfl (xc_virt rfl rfl rfl hq ⟨rfl, Nat.le_of_ble_eq_true rfl, rfl, Or.inl rfl⟩) rfl ⟨Nat.le_of_ble_eq_true rfl, Nat.le_of_ble_eq_true rfl, by decide⟩ (m_byteAt hX.S (k := fr) (by omega)) (fun v h2 hv => ?_)
  obtain ⟨rfl, hh2⟩ := hv
  subst h2
  refine xT.s1 hM rfl rfl ?_
  refine xT.s1 hM rfl rfl ?_
  refine xT.br (fun hb => ?_) (fun hb => ?_)
  · refine xT.s1 hM rfl rfl ?_
    refine xT.s2 hM rfl rfl (x2_get rfl (Or.inl rfl) hq f11) ?_
    refine xT.s1 hM rfl rfl ?_
    refine xT.s2 hM rfl rfl (x2_get rfl (Or.inl rfl) hq f7) ?_
    refine xT.s1 hM rfl rfl ?_
    refine xT.s1 hM rfl rfl ?_
    refine xT.s1 hM rfl rfl ?_
    refine xT.br (fun hb2 => ?_) (fun hb2 => ?_)
    · exact fin F t h hX hN hZ ht
    · refine xT.s1 hM rfl rfl ?_
      refine xT.s1 hM rfl rfl ?_
      refine xT.put hM rfl rfl hq (Or.inl rfl) (by rw [hl]; decide) (rfl) (Or.inl rfl) (fun h_3 F_3 eF eh up fb fo fl => ?_)
      replace hX := hX.upd up fl (by decide) fo fb ((fo 7 (by decide)).trans f7) ⟨_, ((fo 8 (by decide)).trans f8)⟩ ⟨_, ((fo 9 (by decide)).trans f9)⟩ ((fo 10 (by decide)).trans f10) ((fo 11 (by decide)).trans f11)
      obtain ⟨⟨hq, hl, f1, f2, f6, f7, ⟨z8, f8⟩, ⟨n9, f9⟩, f10, f11, h8, htp⟩, rest, fr0⟩ := id hX
      replace hN := up.2.2.1.trans hN
      replace hZ := up.2.2.2.trans hZ
      exact fin _ _ _ hX hN hZ (Or.inl (by decide))
  · exact fin F t h hX hN hZ ht
end XNB
