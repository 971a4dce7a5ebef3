/-! where a scan ends -/
def m_it (f : Nat → Option Nat) : Nat → Nat → Nat
  | 0, a => a
  | m + 1, a => match f a with
    | some b => m_it f m b
    | none => a
def m_end (f : Nat → Option Nat) (tp a : Nat) : Nat := m_it f (tp + 1) a
def m_st (f : Nat → Option Nat) (tp : Nat) : Prop := ∀ a b, f a = some b → a < tp ∧ a < b
theorem m_it_ind {f : Nat → Option Nat} {tp : Nat} (hf : m_st f tp) : ∀ (m m' a : Nat), tp - a < m → tp - a < m' → m_it f m a = m_it f m' a := by
  intro m
  induction m with
  | zero => intro m' a h1 h2; omega
  | succ m ih =>
    intro m' a h1 h2
    cases m' with
    | zero => omega
    | succ m' =>
      unfold m_it
      cases hfa : f a with
      | none => rfl
      | some b =>
        have := hf a b hfa
        exact ih m' b (by omega) (by omega)
theorem m_end_s {f : Nat → Option Nat} {tp a b : Nat} (hf : m_st f tp) (h : f a = some b) : m_end f tp a = m_end f tp b := by
  have := hf a b h
  have e1 : m_end f tp a = m_it f tp b := by unfold m_end; rw [m_it, h]
  rw [e1]
  exact m_it_ind hf _ _ _ (by omega) (by omega)
theorem m_end_n {f : Nat → Option Nat} {tp a : Nat} (h : f a = none) : m_end f tp a = a := by unfold m_end; rw [m_it, h]
theorem m_it_ge {f : Nat → Option Nat} {tp : Nat} (hf : m_st f tp) : ∀ (m a : Nat), a ≤ m_it f m a := by
  intro m
  induction m with
  | zero => intro a; exact Nat.le_refl _
  | succ m ih =>
    intro a
    unfold m_it
    cases hfa : f a with
    | none => exact Nat.le_refl _
    | some b =>
      have := hf a b hfa
      exact Nat.le_trans (by omega) (ih b)
theorem m_end_ge {f : Nat → Option Nat} {tp : Nat} (hf : m_st f tp) (a : Nat) : a ≤ m_end f tp a := m_it_ge hf _ _
theorem m_end_le {f : Nat → Option Nat} {tp T a : Nat} (hT : ∀ a b, f a = some b → b ≤ T) (ha : a ≤ T) : m_end f tp a ≤ T := by
  have go : ∀ (m a : Nat), a ≤ T → m_it f m a ≤ T := by
    intro m
    induction m with
    | zero => intro a h; exact h
    | succ m ih =>
      intro a h
      unfold m_it
      cases hfa : f a with
      | none => exact h
      | some b => exact ih _ (hT _ _ hfa)
  exact go _ _ ha
/-- inside of a comment -/
def m_iS (gb : Nat → Int32) (tp a : Nat) : Option Nat := if a < tp ∧ ¬ x_by gb tp a = 10 ∧ ¬ (x_by gb tp a = 45 ∧ x_by gb tp (a + 1) = 45) then some (a + 1) else none
theorem m_iS_st (gb : Nat → Int32) (tp : Nat) : m_st (m_iS gb tp) tp := fun a b h => by
  unfold m_iS at h
  split at h
  · rename_i hc; cases h; omega
  · cases h
/-- blanks -/
def m_kS (gb : Nat → Int32) (tp a : Nat) : Option Nat := if a < tp then (if x_isB (x_by gb tp a) = true then some (a + 1) else if x_by gb tp a = 45 ∧ x_by gb tp (a + 1) = 45 then (if m_end (m_iS gb tp) tp (a + 2) < tp then (if x_by gb tp (m_end (m_iS gb tp) tp (a + 2)) = 10 then some (m_end (m_iS gb tp) tp (a + 2) + 1) else some (m_end (m_iS gb tp) tp (a + 2) + 2)) else some (m_end (m_iS gb tp) tp (a + 2))) else none) else none
theorem m_kS_st (gb : Nat → Int32) (tp : Nat) : m_st (m_kS gb tp) tp := fun a b h => by
  have g := m_end_ge (m_iS_st gb tp) (a + 2)
  unfold m_kS at h
  split at h
  · split at h
    · cases h; omega
    · split at h
      · split at h
        · split at h
          · cases h; omega
          · cases h; omega
        · cases h; omega
      · cases h
  · cases h
/-! the reference: skip, with its end -/
section XSK
variable {e : xE} {d q q8 tp fr : Nat} {gb : Nat → Int32} {h0 : ab_H} {F0 : List Value} {t : Int32} {w : Value}
theorem m_skipIn2 {Q : ab_O → ab_H → Prop} : ∀ (m a : Nat) (F : List Value) (h : ab_H), m_X h0 h q q8 gb F0 F tp fr a t w → h.length = h0.length → ab_sz h = ab_sz h0 → tp - a < m → a ≤ tp + 2 → (∀ (F : List Value) (h : ab_H), m_X h0 h q q8 gb F0 F tp fr (m_end (m_iS gb tp) tp a) t w → h.length = h0.length → ab_sz h = ab_sz h0 → xT e (d + 1) 17 142 [(0, .ref q)] [] h Q) → xT e (d + 1) 17 77 [(0, .ref q)] [] h Q := by
  have hM : (x_mt e.1)[17]? = some xM17 := rfl
  have k45 : (Int8.ofInt 45).toInt32 = 45 := by decide
  have k10 : (Int8.ofInt 10).toInt32 = 10 := by decide
  intro m
  induction m with
  | zero => intro a F h hX hN hZ m1; omega
  | succ m ih =>
    intro a F h hX hN hZ m1 m2 K
    obtain ⟨⟨hq, hl, f1, f2, f6, f7, ⟨z8, f8⟩, ⟨n9, f9⟩, f10, f11, h8, htp⟩, rest, fr0⟩ := id hX
    have stop : m_iS gb tp a = none → xT e (d + 1) 17 142 [(0, .ref q)] [] h Q := fun z => K F h (by rw [m_end_n z]; exact hX) hN hZ
    have step : a < tp → m_iS gb tp a = some (a + 1) → xT e (d + 1) 17 129 [(0, .ref q)] [] h Q := by
      intro hlt hz
      refine xT.s1 hM rfl rfl ?_
      refine xT.s1 hM rfl rfl ?_
      refine xT.s2 hM rfl rfl (x2_get rfl (Or.inl rfl) hq f11) ?_
      refine xT.s1 hM rfl rfl ?_
      refine xT.s1 hM rfl rfl ?_
      rw [show nI a + Int32.ofInt 1 = nI (a + 1) from nI_add a 1]
      refine xT.put hM rfl rfl hq (Or.inl rfl) (by rw [hl]; decide) (rfl) (Or.inl rfl) (fun h_1 F_1 eF eh up fb fo fl => ?_)
      replace hX := hX.upd up fl (by decide) fo ((fo 6 (by decide)).trans f6) ((fo 7 (by decide)).trans f7) ⟨_, ((fo 8 (by decide)).trans f8)⟩ ⟨_, ((fo 9 (by decide)).trans f9)⟩ ((fo 10 (by decide)).trans f10) fb
      obtain ⟨⟨hq, hl, f1, f2, f6, f7, ⟨z8, f8⟩, ⟨n9, f9⟩, f10, f11, h8, htp⟩, rest, fr0⟩ := id hX
      replace hN := up.2.2.1.trans hN
      replace hZ := up.2.2.2.trans hZ
      refine xT.s1 hM rfl rfl ?_
      exact ih (a + 1) _ _ hX hN hZ (by omega) (by omega) (fun F h hX hN hZ => K F h (by rw [m_end_s (m_iS_st gb tp) hz]; exact hX) hN hZ)
    refine xT.s1 hM rfl rfl ?_
    refine xT.s2 hM rfl rfl (x2_get rfl (Or.inl rfl) hq f11) ?_
    refine xT.s1 hM rfl rfl ?_
    refine xT.s2 hM rfl rfl (x2_get rfl (Or.inl rfl) hq f2) ?_
    refine xT.s1 hM rfl rfl ?_
    refine xT.br (fun hb => ?_) (fun hb => ?_)
    · have hge : tp ≤ a := (nI_leI (by omega) (by omega)).mp hb
      exact stop (by unfold m_iS; rw [if_neg (fun z => by omega)])
    · have hlt : a < tp := Nat.lt_of_not_le (fun z => hb (nI_le z (by omega)))
      refine xT.s1 hM rfl rfl ?_
      refine xT.s1 hM rfl rfl ?_
      refine xT.s2 hM rfl rfl (x2_get rfl (Or.inl rfl) hq f11) ?_
      refine xT.go hM rfl rfl rfl rfl rfl rfl (xc_virt rfl rfl rfl hq ⟨rfl, Nat.le_of_ble_eq_true rfl, rfl, Or.inl rfl⟩) rfl ⟨Nat.le_of_ble_eq_true rfl, Nat.le_of_ble_eq_true rfl, by decide⟩ (m_byteAt hX.S (k := a) (by omega)) (fun v h2 hv => ?_)
      obtain ⟨rfl, hh2⟩ := hv
      subst h2
      refine xT.s1 hM rfl rfl ?_
      refine xT.s1 hM rfl rfl ?_
      refine xT.br (fun hb2 => ?_) (fun hb2 => ?_)
      · rw [k10] at hb2
        exact stop (by unfold m_iS; rw [if_neg (fun z => z.2.1 hb2)])
      · rw [k10] at hb2
        refine xT.s1 hM rfl rfl ?_
        refine xT.s1 hM rfl rfl ?_
        refine xT.s2 hM rfl rfl (x2_get rfl (Or.inl rfl) hq f11) ?_
        refine xT.go hM rfl rfl rfl rfl rfl rfl (xc_virt rfl rfl rfl hq ⟨rfl, Nat.le_of_ble_eq_true rfl, rfl, Or.inl rfl⟩) rfl ⟨Nat.le_of_ble_eq_true rfl, Nat.le_of_ble_eq_true rfl, by decide⟩ (m_byteAt hX.S (k := a) (by omega)) (fun v h2 hv => ?_)
        obtain ⟨rfl, hh2⟩ := hv
        subst h2
        refine xT.s1 hM rfl rfl ?_
        refine xT.s1 hM rfl rfl ?_
        refine xT.br (fun hb3 => ?_) (fun hb3 => ?_)
        · rw [k45] at hb3
          refine xT.s1 hM rfl rfl ?_
          refine xT.s1 hM rfl rfl ?_
          refine xT.s2 hM rfl rfl (x2_get rfl (Or.inl rfl) hq f11) ?_
          refine xT.s1 hM rfl rfl ?_
          refine xT.s1 hM rfl rfl ?_
          rw [show nI a + Int32.ofInt 1 = nI (a + 1) from nI_add a 1]
          refine xT.go hM rfl rfl rfl rfl rfl rfl (xc_virt rfl rfl rfl hq ⟨rfl, Nat.le_of_ble_eq_true rfl, rfl, Or.inl rfl⟩) rfl ⟨Nat.le_of_ble_eq_true rfl, Nat.le_of_ble_eq_true rfl, by decide⟩ (m_byteAt hX.S (k := (a + 1)) (by omega)) (fun v h2 hv => ?_)
          obtain ⟨rfl, hh2⟩ := hv
          subst h2
          refine xT.s1 hM rfl rfl ?_
          refine xT.s1 hM rfl rfl ?_
          refine xT.br (fun hb4 => ?_) (fun hb4 => ?_)
          · rw [k45] at hb4
            exact stop (by unfold m_iS; rw [if_neg (fun z => z.2.2 ⟨hb3, hb4⟩)])
          · rw [k45] at hb4
            exact step hlt (by unfold m_iS; rw [if_pos ⟨hlt, hb2, fun z => hb4 z.2⟩])
        · rw [k45] at hb3
          exact step hlt (by unfold m_iS; rw [if_pos ⟨hlt, hb2, fun z => hb3 z.1⟩])
theorem m_iE_le {a : Nat} (ha : a ≤ tp + 2) : m_end (m_iS gb tp) tp a ≤ tp + 2 := m_end_le (fun a b h => by
  unfold m_iS at h
  split at h
  · rename_i hc; cases h; omega
  · cases h) ha
theorem m_skip2 : ∀ (m a : Nat) (F : List Value) (h : ab_H), m_X h0 h q q8 gb F0 F tp fr a t w → h.length = h0.length → ab_sz h = ab_sz h0 → tp + 2 - a < m → a ≤ tp + 2 → xT e (d + 1) 17 0 [(0, .ref q)] [] h (fun o h' => ∃ v, o = .inl v ∧ v = none ∧ ∃ F', m_X h0 h' q q8 gb F0 F' tp fr (m_end (m_kS gb tp) tp a) t w ∧ h'.length = h0.length ∧ ab_sz h' = ab_sz h0 ∧ m_end (m_kS gb tp) tp a ≤ tp + 2) := by
  have hM : (x_mt e.1)[17]? = some xM17 := rfl
  have k45 : (Int8.ofInt 45).toInt32 = 45 := by decide
  have k10 : (Int8.ofInt 10).toInt32 = 10 := by decide
  intro m
  induction m with
  | zero => intro a F h hX hN hZ m1; omega
  | succ m ih =>
    intro a F h hX hN hZ m1 m2
    obtain ⟨⟨hq, hl, f1, f2, f6, f7, ⟨z8, f8⟩, ⟨n9, f9⟩, f10, f11, h8, htp⟩, rest, fr0⟩ := id hX
    have next : ∀ (b : Nat) (F : List Value) (h : ab_H), m_kS gb tp a = some b → b ≤ tp + 2 → m_X h0 h q q8 gb F0 F tp fr b t w → h.length = h0.length → ab_sz h = ab_sz h0 → xT e (d + 1) 17 0 [(0, .ref q)] [] h (fun o h' => ∃ v, o = .inl v ∧ v = none ∧ ∃ F', m_X h0 h' q q8 gb F0 F' tp fr (m_end (m_kS gb tp) tp a) t w ∧ h'.length = h0.length ∧ ab_sz h' = ab_sz h0 ∧ m_end (m_kS gb tp) tp a ≤ tp + 2) := by
      intro b F h hz hb hX hN hZ
      have hs := m_kS_st gb tp a b hz
      rw [m_end_s (m_kS_st gb tp) hz]
      exact ih b F h hX hN hZ (by omega) hb
    refine xT.s1 hM rfl rfl ?_
    refine xT.s2 hM rfl rfl (x2_get rfl (Or.inl rfl) hq f11) ?_
    refine xT.s1 hM rfl rfl ?_
    refine xT.s2 hM rfl rfl (x2_get rfl (Or.inl rfl) hq f2) ?_
    refine xT.s1 hM rfl rfl ?_
    refine xT.br (fun hb => ?_) (fun hb => ?_)
    · have hge : tp ≤ a := (nI_leI (by omega) (by omega)).mp hb
      have hz : m_kS gb tp a = none := by unfold m_kS; rw [if_neg (by omega)]
      exact xT.ret hM rfl rfl rfl rfl (⟨_, rfl, rfl, F, by rw [m_end_n hz]; exact hX, hN, hZ, by rw [m_end_n hz]; exact m2⟩)
    · have hlt : a < tp := Nat.lt_of_not_le (fun z => hb (nI_le z (by omega)))
      refine xT.s1 hM rfl rfl ?_
      refine xT.s1 hM rfl rfl ?_
      refine xT.s1 hM rfl rfl ?_
      refine xT.s2 hM rfl rfl (x2_get rfl (Or.inl rfl) hq f11) ?_
      refine xT.go hM rfl rfl rfl rfl rfl rfl (xc_virt rfl rfl rfl hq ⟨rfl, Nat.le_of_ble_eq_true rfl, rfl, Or.inl rfl⟩) rfl ⟨Nat.le_of_ble_eq_true rfl, Nat.le_of_ble_eq_true rfl, by decide⟩ (m_byteAt hX.S (k := a) (by omega)) (fun v h2 hv => ?_)
      obtain ⟨rfl, hh2⟩ := hv
      subst h2
      refine xT.go hM rfl rfl rfl rfl rfl rfl (xc_virt rfl rfl rfl hq ⟨rfl, Nat.le_of_ble_eq_true rfl, rfl, Or.inl rfl⟩) rfl ⟨Nat.le_of_ble_eq_true rfl, Nat.le_of_ble_eq_true rfl, by decide⟩ (m_blank _) (fun v h2 hv => ?_)
      obtain ⟨rfl, hh2⟩ := hv
      subst h2
      refine xT.s1 hM rfl rfl ?_
      refine xT.br (fun hb2 => ?_) (fun hb2 => ?_)
      · have hnb := x_b00 hb2
        refine xT.s1 hM rfl rfl ?_
        refine xT.s1 hM rfl rfl ?_
        refine xT.s2 hM rfl rfl (x2_get rfl (Or.inl rfl) hq f11) ?_
        refine xT.go hM rfl rfl rfl rfl rfl rfl (xc_virt rfl rfl rfl hq ⟨rfl, Nat.le_of_ble_eq_true rfl, rfl, Or.inl rfl⟩) rfl ⟨Nat.le_of_ble_eq_true rfl, Nat.le_of_ble_eq_true rfl, by decide⟩ (m_byteAt hX.S (k := a) (by omega)) (fun v h2 hv => ?_)
        obtain ⟨rfl, hh2⟩ := hv
        subst h2
        refine xT.s1 hM rfl rfl ?_
        refine xT.s1 hM rfl rfl ?_
        refine xT.br (fun hb3 => ?_) (fun hb3 => ?_)
        · rw [k45] at hb3
          refine xT.s1 hM rfl rfl ?_
          refine xT.s1 hM rfl rfl ?_
          refine xT.s2 hM rfl rfl (x2_get rfl (Or.inl rfl) hq f11) ?_
          refine xT.s1 hM rfl rfl ?_
          refine xT.s1 hM rfl rfl ?_
          rw [show nI a + Int32.ofInt 1 = nI (a + 1) from nI_add a 1]
          refine xT.go hM rfl rfl rfl rfl rfl rfl (xc_virt rfl rfl rfl hq ⟨rfl, Nat.le_of_ble_eq_true rfl, rfl, Or.inl rfl⟩) rfl ⟨Nat.le_of_ble_eq_true rfl, Nat.le_of_ble_eq_true rfl, by decide⟩ (m_byteAt hX.S (k := (a + 1)) (by omega)) (fun v h2 hv => ?_)
          obtain ⟨rfl, hh2⟩ := hv
          subst h2
          refine xT.s1 hM rfl rfl ?_
          refine xT.s1 hM rfl rfl ?_
          refine xT.br (fun hb4 => ?_) (fun hb4 => ?_)
          · rw [k45] at hb4
            refine xT.s1 hM rfl rfl ?_
            refine xT.s1 hM rfl rfl ?_
            refine xT.s2 hM rfl rfl (x2_get rfl (Or.inl rfl) hq f11) ?_
            refine xT.s1 hM rfl rfl ?_
            refine xT.s1 hM rfl rfl ?_
            rw [show nI a + Int32.ofInt 2 = nI (a + 2) from nI_add a 2]
            refine xT.put hM rfl rfl hq (Or.inl rfl) (by rw [hl]; decide) (rfl) (Or.inl rfl) (fun h_1 F_1 eF eh up fb fo fl => ?_)
            replace hX := hX.upd up fl (by decide) fo ((fo 6 (by decide)).trans f6) ((fo 7 (by decide)).trans f7) ⟨_, ((fo 8 (by decide)).trans f8)⟩ ⟨_, ((fo 9 (by decide)).trans f9)⟩ ((fo 10 (by decide)).trans f10) fb
            obtain ⟨⟨hq, hl, f1, f2, f6, f7, ⟨z8, f8⟩, ⟨n9, f9⟩, f10, f11, h8, htp⟩, rest, fr0⟩ := id hX
            replace hN := up.2.2.1.trans hN
            replace hZ := up.2.2.2.trans hZ
            refine m_skipIn2 (tp + 1) (a + 2) _ _ hX hN hZ (by omega) (by omega) (fun F h hX hN hZ => ?_)
            have le2 : m_end (m_iS gb tp) tp (a + 2) ≤ tp + 2 := m_iE_le (by omega)
            have hz : m_kS gb tp a = (if m_end (m_iS gb tp) tp (a + 2) < tp then (if x_by gb tp (m_end (m_iS gb tp) tp (a + 2)) = 10 then some (m_end (m_iS gb tp) tp (a + 2) + 1) else some (m_end (m_iS gb tp) tp (a + 2) + 2)) else some (m_end (m_iS gb tp) tp (a + 2))) := by unfold m_kS; rw [if_pos hlt, if_neg hnb, if_pos ⟨hb3, hb4⟩]
            generalize m_end (m_iS gb tp) tp (a + 2) = b at hX le2 hz
            obtain ⟨⟨hq, hl, f1, f2, f6, f7, ⟨z8, f8⟩, ⟨n9, f9⟩, f10, f11, h8, htp⟩, rest, fr0⟩ := id hX
            refine xT.s1 hM rfl rfl ?_
            refine xT.s2 hM rfl rfl (x2_get rfl (Or.inl rfl) hq f11) ?_
            refine xT.s1 hM rfl rfl ?_
            refine xT.s2 hM rfl rfl (x2_get rfl (Or.inl rfl) hq f2) ?_
            refine xT.s1 hM rfl rfl ?_
            refine xT.br (fun hb5 => ?_) (fun hb5 => ?_)
            · have hge : tp ≤ b := (nI_leI (by omega) (by omega)).mp hb5
              rw [if_neg (by omega)] at hz
              exact next b F h hz le2 hX hN hZ
            · have hlt2 : b < tp := Nat.lt_of_not_le (fun z => hb5 (nI_le z (by omega)))
              rw [if_pos hlt2] at hz
              refine xT.s1 hM rfl rfl ?_
              refine xT.s1 hM rfl rfl ?_
              refine xT.s2 hM rfl rfl (x2_get rfl (Or.inl rfl) hq f11) ?_
              refine xT.s1 hM rfl rfl ?_
              refine xT.s1 hM rfl rfl ?_
              refine xT.s2 hM rfl rfl (x2_get rfl (Or.inl rfl) hq f11) ?_
              refine xT.go hM rfl rfl rfl rfl rfl rfl (xc_virt rfl rfl rfl hq ⟨rfl, Nat.le_of_ble_eq_true rfl, rfl, Or.inl rfl⟩) rfl ⟨Nat.le_of_ble_eq_true rfl, Nat.le_of_ble_eq_true rfl, by decide⟩ (m_byteAt hX.S (k := b) (by omega)) (fun v h2 hv => ?_)
              obtain ⟨rfl, hh2⟩ := hv
              subst h2
              refine xT.s1 hM rfl rfl ?_
              refine xT.s1 hM rfl rfl ?_
              refine xT.br (fun hb6 => ?_) (fun hb6 => ?_)
              · rw [k10] at hb6
                rw [if_pos hb6] at hz
                refine xT.s1 hM rfl rfl ?_
                refine xT.s1 hM rfl rfl ?_
                refine xT.s1 hM rfl rfl ?_
                rw [show nI b + Int32.ofInt 1 = nI (b + 1) from nI_add b 1]
                refine xT.put hM rfl rfl hq (Or.inl rfl) (by rw [hl]; decide) (rfl) (Or.inl rfl) (fun h_2 F_2 eF eh up fb fo fl => ?_)
                replace hX := hX.upd up fl (by decide) fo ((fo 6 (by decide)).trans f6) ((fo 7 (by decide)).trans f7) ⟨_, ((fo 8 (by decide)).trans f8)⟩ ⟨_, ((fo 9 (by decide)).trans f9)⟩ ((fo 10 (by decide)).trans f10) fb
                obtain ⟨⟨hq, hl, f1, f2, f6, f7, ⟨z8, f8⟩, ⟨n9, f9⟩, f10, f11, h8, htp⟩, rest, fr0⟩ := id hX
                replace hN := up.2.2.1.trans hN
                replace hZ := up.2.2.2.trans hZ
                refine xT.s1 hM rfl rfl ?_
                exact next (b + 1) _ _ hz (by omega) hX hN hZ
              · rw [k10] at hb6
                rw [if_neg hb6] at hz
                refine xT.s1 hM rfl rfl ?_
                refine xT.s1 hM rfl rfl ?_
                rw [show nI b + Int32.ofInt 2 = nI (b + 2) from nI_add b 2]
                refine xT.put hM rfl rfl hq (Or.inl rfl) (by rw [hl]; decide) (rfl) (Or.inl rfl) (fun h_3 F_3 eF eh up fb fo fl => ?_)
                replace hX := hX.upd up fl (by decide) fo ((fo 6 (by decide)).trans f6) ((fo 7 (by decide)).trans f7) ⟨_, ((fo 8 (by decide)).trans f8)⟩ ⟨_, ((fo 9 (by decide)).trans f9)⟩ ((fo 10 (by decide)).trans f10) fb
                obtain ⟨⟨hq, hl, f1, f2, f6, f7, ⟨z8, f8⟩, ⟨n9, f9⟩, f10, f11, h8, htp⟩, rest, fr0⟩ := id hX
                replace hN := up.2.2.1.trans hN
                replace hZ := up.2.2.2.trans hZ
                refine xT.s1 hM rfl rfl ?_
                exact next (b + 2) _ _ hz (by omega) hX hN hZ
          · rw [k45] at hb4
            have hz : m_kS gb tp a = none := by unfold m_kS; rw [if_pos hlt, if_neg hnb, if_neg (fun z => hb4 z.2)]
            exact xT.ret hM rfl rfl rfl rfl (⟨_, rfl, rfl, F, by rw [m_end_n hz]; exact hX, hN, hZ, by rw [m_end_n hz]; exact m2⟩)
        · rw [k45] at hb3
          have hz : m_kS gb tp a = none := by unfold m_kS; rw [if_pos hlt, if_neg hnb, if_neg (fun z => hb3 z.1)]
          exact xT.ret hM rfl rfl rfl rfl (⟨_, rfl, rfl, F, by rw [m_end_n hz]; exact hX, hN, hZ, by rw [m_end_n hz]; exact m2⟩)
      · have hz : m_kS gb tp a = some (a + 1) := by unfold m_kS; rw [if_pos hlt, if_pos (x_b01 hb2)]
        refine xT.s1 hM rfl rfl ?_
        refine xT.s1 hM rfl rfl ?_
        refine xT.s2 hM rfl rfl (x2_get rfl (Or.inl rfl) hq f11) ?_
        refine xT.s1 hM rfl rfl ?_
        refine xT.s1 hM rfl rfl ?_
        rw [show nI a + Int32.ofInt 1 = nI (a + 1) from nI_add a 1]
        refine xT.put hM rfl rfl hq (Or.inl rfl) (by rw [hl]; decide) (rfl) (Or.inl rfl) (fun h_4 F_4 eF eh up fb fo fl => ?_)
        replace hX := hX.upd up fl (by decide) fo ((fo 6 (by decide)).trans f6) ((fo 7 (by decide)).trans f7) ⟨_, ((fo 8 (by decide)).trans f8)⟩ ⟨_, ((fo 9 (by decide)).trans f9)⟩ ((fo 10 (by decide)).trans f10) fb
        obtain ⟨⟨hq, hl, f1, f2, f6, f7, ⟨z8, f8⟩, ⟨n9, f9⟩, f10, f11, h8, htp⟩, rest, fr0⟩ := id hX
        replace hN := up.2.2.1.trans hN
        replace hZ := up.2.2.2.trans hZ
        refine xT.s1 hM rfl rfl ?_
        exact next (a + 1) _ _ hz (by omega) hX hN hZ
end XSK
