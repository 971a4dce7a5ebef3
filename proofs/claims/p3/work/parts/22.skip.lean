/-! the reference: skip -/
theorem m_S.same {h : ab_H} {q q8 : Nat} {gb : Nat → Int32} {F : List Value} {tp a : Nat} (hS : m_S h q q8 gb F tp a) : h.set q (.inr (3, F.set 11 (.int (nI a)))) = h := by
  obtain ⟨h1, h2, h3, h4, h5, h6, h7, h8⟩ := hS
  have e1 : F.set 11 (.int (nI a)) = F := by
    apply List.ext_getElem?
    intro i
    by_cases hi : i = 11
    · subst hi; rw [List.getElem?_set_self (by rw [h2]; decide)]; exact h5.symm
    · rw [List.getElem?_set_ne (Ne.symm hi)]
  rw [e1]
  apply List.ext_getElem?
  intro i
  by_cases hi : i = q
  · subst hi; rw [List.getElem?_set_self (List.getElem?_eq_some_iff.mp h1).1]; exact h1.symm
  · rw [List.getElem?_set_ne (Ne.symm hi)]
theorem x_set2 {h : ab_H} {q : Nat} {F : List Value} {u v : Value} : (h.set q (.inr (3, F.set 11 u))).set q (.inr (3, (F.set 11 u).set 11 v)) = h.set q (.inr (3, F.set 11 v)) := by
  rw [List.set_set, List.set_set]
section XS
variable {e : xE} {d q q8 tp : Nat} {gb : Nat → Int32}
/-- inside of a comment -/
theorem m_skipIn {Q : ab_O → ab_H → Prop} : ∀ (n a : Nat) (F : List Value) (h : ab_H), m_S h q q8 gb F tp a → tp - a ≤ n → a ≤ tp + 2 → (∀ a', a ≤ a' → a' ≤ tp + 2 → xT e (d + 1) 17 142 [(0, .ref q)] [] (h.set q (.inr (3, F.set 11 (.int (nI a'))))) Q) → xT e (d + 1) 17 77 [(0, .ref q)] [] h Q := by
  have hM : (x_mt e.1)[17]? = some xM17 := rfl
  intro n
  induction n with
  | zero =>
    intro a F h hS hn ha k
    obtain ⟨h7, f0, f1, f2, f11, h8, hne, htp⟩ := id hS
    refine xT.s1 hM rfl rfl ?_
    refine xT.s2 hM rfl rfl (x2_get rfl (Or.inl rfl) h7 f11) ?_
    refine xT.s1 hM rfl rfl ?_
    refine xT.s2 hM rfl rfl (x2_get rfl (Or.inl rfl) h7 f2) ?_
    refine xT.s1 hM rfl rfl ?_
    rw [if_pos ((nI_leI (by omega) (by omega)).mpr (by omega))]
    have z := k a (by omega) (by omega)
    rw [hS.same] at z
    exact z
  | succ n ih =>
    intro a F h hS hn ha k
    obtain ⟨h7, f0, f1, f2, f11, h8, hne, htp⟩ := id hS
    have out : xT e (d + 1) 17 142 [(0, .ref q)] [] h Q := by
      have z := k a (by omega) (by omega)
      rw [hS.same] at z
      exact z
    have on : a < tp → xT e (d + 1) 17 129 [(0, .ref q)] [] h Q := fun hlt => by
      refine xT.s1 hM rfl rfl ?_
      refine xT.s1 hM rfl rfl ?_
      refine xT.s2 hM rfl rfl (x2_get rfl (Or.inl rfl) h7 f11) ?_
      refine xT.s1 hM rfl rfl ?_
      refine xT.s1 hM rfl rfl ?_
      rw [show nI a + Int32.ofInt 1 = nI (a + 1) from nI_add a 1]
      refine xT.s2 hM rfl rfl (x2_put rfl h7 ⟨Or.inl rfl, rfl, by rw [f0]; decide, rfl, Or.inl rfl⟩) ?_
      refine xT.s1 hM rfl rfl ?_
      refine ih (a + 1) _ _ (hS.put (a + 1)) (by omega) (by omega) (fun a' h1 h2 => ?_)
      rw [x_set2]
      exact k a' (by omega) h2
    refine xT.s1 hM rfl rfl ?_
    refine xT.s2 hM rfl rfl (x2_get rfl (Or.inl rfl) h7 f11) ?_
    refine xT.s1 hM rfl rfl ?_
    refine xT.s2 hM rfl rfl (x2_get rfl (Or.inl rfl) h7 f2) ?_
    refine xT.s1 hM rfl rfl ?_
    by_cases hlt : a < tp
    · rw [if_neg (fun z => absurd ((nI_leI (by omega) (by omega)).mp z) (by omega))]
      refine xT.s1 hM rfl rfl ?_
      refine xT.s1 hM rfl rfl ?_
      refine xT.s2 hM rfl rfl (x2_get rfl (Or.inl rfl) h7 f11) ?_
      refine xT.go hM rfl rfl rfl rfl rfl rfl (xc_virt rfl rfl rfl h7 ⟨rfl, Nat.le_of_ble_eq_true rfl, rfl, Or.inl rfl⟩) rfl ⟨Nat.le_of_ble_eq_true rfl, Nat.le_of_ble_eq_true rfl, by decide⟩ (m_byteAt hS (k := a) (by omega)) (fun v h2 hv => ?_)
      obtain ⟨rfl, hh2⟩ := hv
      subst h2
      refine xT.s1 hM rfl rfl ?_
      refine xT.s1 hM rfl rfl ?_
      by_cases c1 : x_by gb tp a = 10
      · rw [if_pos (show x_by gb tp a = (Int8.ofInt 10).toInt32 from c1)]; exact out
      rw [if_neg (show ¬ x_by gb tp a = (Int8.ofInt 10).toInt32 from c1)]
      refine xT.s1 hM rfl rfl ?_
      refine xT.s1 hM rfl rfl ?_
      refine xT.s2 hM rfl rfl (x2_get rfl (Or.inl rfl) h7 f11) ?_
      refine xT.go hM rfl rfl rfl rfl rfl rfl (xc_virt rfl rfl rfl h7 ⟨rfl, Nat.le_of_ble_eq_true rfl, rfl, Or.inl rfl⟩) rfl ⟨Nat.le_of_ble_eq_true rfl, Nat.le_of_ble_eq_true rfl, by decide⟩ (m_byteAt hS (k := a) (by omega)) (fun v h2 hv => ?_)
      obtain ⟨rfl, hh2⟩ := hv
      subst h2
      refine xT.s1 hM rfl rfl ?_
      refine xT.s1 hM rfl rfl ?_
      by_cases c2 : x_by gb tp a = 45
      · rw [if_pos (show x_by gb tp a = (Int8.ofInt 45).toInt32 from c2)]
        refine xT.s1 hM rfl rfl ?_
        refine xT.s1 hM rfl rfl ?_
        refine xT.s2 hM rfl rfl (x2_get rfl (Or.inl rfl) h7 f11) ?_
        refine xT.s1 hM rfl rfl ?_
        refine xT.s1 hM rfl rfl ?_
        rw [show nI a + Int32.ofInt 1 = nI (a + 1) from nI_add a 1]
        refine xT.go hM rfl rfl rfl rfl rfl rfl (xc_virt rfl rfl rfl h7 ⟨rfl, Nat.le_of_ble_eq_true rfl, rfl, Or.inl rfl⟩) rfl ⟨Nat.le_of_ble_eq_true rfl, Nat.le_of_ble_eq_true rfl, by decide⟩ (m_byteAt hS (k := a + 1) (by omega)) (fun v h2 hv => ?_)
        obtain ⟨rfl, hh2⟩ := hv
        subst h2
        refine xT.s1 hM rfl rfl ?_
        refine xT.s1 hM rfl rfl ?_
        by_cases c3 : x_by gb tp (a + 1) = 45
        · rw [if_pos (show x_by gb tp (a + 1) = (Int8.ofInt 45).toInt32 from c3)]; exact out
        · rw [if_neg (show ¬ x_by gb tp (a + 1) = (Int8.ofInt 45).toInt32 from c3)]; exact on hlt
      · rw [if_neg (show ¬ x_by gb tp a = (Int8.ofInt 45).toInt32 from c2)]; exact on hlt
    · rw [if_pos ((nI_leI (by omega) (by omega)).mpr (by omega))]; exact out
theorem m_skip : ∀ (n a : Nat) (F : List Value) (h : ab_H), m_S h q q8 gb F tp a → tp + 2 - a ≤ n → a ≤ tp + 2 → xT e (d + 1) 17 0 [(0, .ref q)] [] h (fun o h' => ∃ v, o = .inl v ∧ v = none ∧ ∃ a', a ≤ a' ∧ a' ≤ tp + 2 ∧ h' = h.set q (.inr (3, F.set 11 (.int (nI a'))))) := by
  have hM : (x_mt e.1)[17]? = some xM17 := rfl
  intro n
  induction n with
  | zero =>
    intro a F h hS hn ha
    obtain ⟨h7, f0, f1, f2, f11, h8, hne, htp⟩ := id hS
    refine xT.s1 hM rfl rfl ?_
    refine xT.s2 hM rfl rfl (x2_get rfl (Or.inl rfl) h7 f11) ?_
    refine xT.s1 hM rfl rfl ?_
    refine xT.s2 hM rfl rfl (x2_get rfl (Or.inl rfl) h7 f2) ?_
    refine xT.s1 hM rfl rfl ?_
    rw [if_pos ((nI_leI (by omega) (by omega)).mpr (by omega))]
    exact xT.ret hM rfl rfl rfl rfl ⟨_, rfl, rfl, a, by omega, by omega, hS.same.symm⟩
  | succ n ih =>
    intro a F h hS hn ha
    obtain ⟨h7, f0, f1, f2, f11, h8, hne, htp⟩ := id hS
    have up : ∀ (b : Nat) (k : ab_H), a < b → b ≤ tp + 2 → k = h.set q (.inr (3, F.set 11 (.int (nI b)))) → xT e (d + 1) 17 0 [(0, .ref q)] [] k (fun o h' => ∃ v, o = .inl v ∧ v = none ∧ ∃ a', a ≤ a' ∧ a' ≤ tp + 2 ∧ h' = h.set q (.inr (3, F.set 11 (.int (nI a'))))) := fun b k hb1 hb2 hk => by
      subst hk
      refine (ih b _ _ (hS.put b) (by omega) hb2).mono (fun o h' z => ?_)
      obtain ⟨v, z1, z2, a', z3, z4, z5⟩ := z
      exact ⟨v, z1, z2, a', by omega, z4, by rw [z5, x_set2]⟩
    refine xT.s1 hM rfl rfl ?_
    refine xT.s2 hM rfl rfl (x2_get rfl (Or.inl rfl) h7 f11) ?_
    refine xT.s1 hM rfl rfl ?_
    refine xT.s2 hM rfl rfl (x2_get rfl (Or.inl rfl) h7 f2) ?_
    refine xT.s1 hM rfl rfl ?_
    by_cases hlt : a < tp
    · rw [if_neg (fun z => absurd ((nI_leI (by omega) (by omega)).mp z) (by omega))]
      refine xT.s1 hM rfl rfl ?_
      refine xT.s1 hM rfl rfl ?_
      refine xT.s1 hM rfl rfl ?_
      refine xT.s2 hM rfl rfl (x2_get rfl (Or.inl rfl) h7 f11) ?_
      refine xT.go hM rfl rfl rfl rfl rfl rfl (xc_virt rfl rfl rfl h7 ⟨rfl, Nat.le_of_ble_eq_true rfl, rfl, Or.inl rfl⟩) rfl ⟨Nat.le_of_ble_eq_true rfl, Nat.le_of_ble_eq_true rfl, by decide⟩ (m_byteAt hS (k := a) (by omega)) (fun v h2 hv => ?_)
      obtain ⟨rfl, hh2⟩ := hv
      subst h2
      refine xT.go hM rfl rfl rfl rfl rfl rfl (xc_virt rfl rfl rfl h7 ⟨rfl, Nat.le_of_ble_eq_true rfl, rfl, Or.inl rfl⟩) rfl ⟨Nat.le_of_ble_eq_true rfl, Nat.le_of_ble_eq_true rfl, by decide⟩ (m_blank (x_by gb tp a)) (fun v h2 hv => ?_)
      obtain ⟨rfl, hh2⟩ := hv
      subst h2
      refine xT.s1 hM rfl rfl ?_
      by_cases c0 : x_isB (x_by gb tp a) = true
      · rw [if_pos c0]
        show xT e (d + 1) 17 26 _ _ _ _
        refine xT.s1 hM rfl rfl ?_
        refine xT.s1 hM rfl rfl ?_
        refine xT.s2 hM rfl rfl (x2_get rfl (Or.inl rfl) h7 f11) ?_
        refine xT.s1 hM rfl rfl ?_
        refine xT.s1 hM rfl rfl ?_
        rw [show nI a + Int32.ofInt 1 = nI (a + 1) from nI_add a 1]
        refine xT.s2 hM rfl rfl (x2_put rfl h7 ⟨Or.inl rfl, rfl, by rw [f0]; decide, rfl, Or.inl rfl⟩) ?_
        refine xT.s1 hM rfl rfl ?_
        exact up (a + 1) _ (by omega) (by omega) rfl
      rw [if_neg c0]
      show xT e (d + 1) 17 39 _ _ _ _
      refine xT.s1 hM rfl rfl ?_
      refine xT.s1 hM rfl rfl ?_
      refine xT.s2 hM rfl rfl (x2_get rfl (Or.inl rfl) h7 f11) ?_
      refine xT.go hM rfl rfl rfl rfl rfl rfl (xc_virt rfl rfl rfl h7 ⟨rfl, Nat.le_of_ble_eq_true rfl, rfl, Or.inl rfl⟩) rfl ⟨Nat.le_of_ble_eq_true rfl, Nat.le_of_ble_eq_true rfl, by decide⟩ (m_byteAt hS (k := a) (by omega)) (fun v h2 hv => ?_)
      obtain ⟨rfl, hh2⟩ := hv
      subst h2
      refine xT.s1 hM rfl rfl ?_
      refine xT.s1 hM rfl rfl ?_
      by_cases c2 : x_by gb tp a = 45
      · rw [if_pos (show x_by gb tp a = (Int8.ofInt 45).toInt32 from c2)]
        refine xT.s1 hM rfl rfl ?_
        refine xT.s1 hM rfl rfl ?_
        refine xT.s2 hM rfl rfl (x2_get rfl (Or.inl rfl) h7 f11) ?_
        refine xT.s1 hM rfl rfl ?_
        refine xT.s1 hM rfl rfl ?_
        rw [show nI a + Int32.ofInt 1 = nI (a + 1) from nI_add a 1]
        refine xT.go hM rfl rfl rfl rfl rfl rfl (xc_virt rfl rfl rfl h7 ⟨rfl, Nat.le_of_ble_eq_true rfl, rfl, Or.inl rfl⟩) rfl ⟨Nat.le_of_ble_eq_true rfl, Nat.le_of_ble_eq_true rfl, by decide⟩ (m_byteAt hS (k := a + 1) (by omega)) (fun v h2 hv => ?_)
        obtain ⟨rfl, hh2⟩ := hv
        subst h2
        refine xT.s1 hM rfl rfl ?_
        refine xT.s1 hM rfl rfl ?_
        by_cases c3 : x_by gb tp (a + 1) = 45
        · rw [if_pos (show x_by gb tp (a + 1) = (Int8.ofInt 45).toInt32 from c3)]
          refine xT.s1 hM rfl rfl ?_
          refine xT.s1 hM rfl rfl ?_
          refine xT.s2 hM rfl rfl (x2_get rfl (Or.inl rfl) h7 f11) ?_
          refine xT.s1 hM rfl rfl ?_
          refine xT.s1 hM rfl rfl ?_
          rw [show nI a + Int32.ofInt 2 = nI (a + 2) from nI_add a 2]
          refine xT.s2 hM rfl rfl (x2_put rfl h7 ⟨Or.inl rfl, rfl, by rw [f0]; decide, rfl, Or.inl rfl⟩) ?_
          refine m_skipIn (tp + 2) (a + 2) _ _ (hS.put (a + 2)) (by omega) (by omega) (fun b hb1 hb2 => ?_)
          rw [x_set2]
          have hS2 := hS.put b
          generalize hk : h.set q (.inr (3, F.set 11 (.int (nI b)))) = k at hS2
          generalize hF : F.set 11 (.int (nI b)) = F2 at hS2
          obtain ⟨h7, f0, f1, f2, f11, h8, hne, htp⟩ := id hS2
          refine xT.s1 hM rfl rfl ?_
          refine xT.s2 hM rfl rfl (x2_get rfl (Or.inl rfl) h7 f11) ?_
          refine xT.s1 hM rfl rfl ?_
          refine xT.s2 hM rfl rfl (x2_get rfl (Or.inl rfl) h7 f2) ?_
          refine xT.s1 hM rfl rfl ?_
          by_cases hlt2 : b < tp
          · rw [if_neg (fun z => absurd ((nI_leI (by omega) (by omega)).mp z) (by omega))]
            refine xT.s1 hM rfl rfl ?_
            refine xT.s1 hM rfl rfl ?_
            refine xT.s2 hM rfl rfl (x2_get rfl (Or.inl rfl) h7 f11) ?_
            refine xT.s1 hM rfl rfl ?_
            refine xT.s1 hM rfl rfl ?_
            refine xT.s2 hM rfl rfl (x2_get rfl (Or.inl rfl) h7 f11) ?_
            refine xT.go hM rfl rfl rfl rfl rfl rfl (xc_virt rfl rfl rfl h7 ⟨rfl, Nat.le_of_ble_eq_true rfl, rfl, Or.inl rfl⟩) rfl ⟨Nat.le_of_ble_eq_true rfl, Nat.le_of_ble_eq_true rfl, by decide⟩ (m_byteAt hS2 (k := b) (by omega)) (fun v h2 hv => ?_)
            obtain ⟨rfl, hh2⟩ := hv
            subst h2
            refine xT.s1 hM rfl rfl ?_
            refine xT.s1 hM rfl rfl ?_
            by_cases c4 : x_by gb tp b = 10
            · rw [if_pos (show x_by gb tp b = (Int8.ofInt 10).toInt32 from c4)]
              refine xT.s1 hM rfl rfl ?_
              refine xT.s1 hM rfl rfl ?_
              refine xT.s1 hM rfl rfl ?_
              rw [show nI b + Int32.ofInt 1 = nI (b + 1) from nI_add b 1]
              refine xT.s2 hM rfl rfl (x2_put rfl h7 ⟨Or.inl rfl, rfl, by rw [f0]; decide, rfl, Or.inl rfl⟩) ?_
              refine xT.s1 hM rfl rfl ?_
              exact up (b + 1) _ (by omega) (by omega) (by rw [← hk, ← hF, x_set2])
            · rw [if_neg (show ¬ x_by gb tp b = (Int8.ofInt 10).toInt32 from c4)]
              refine xT.s1 hM rfl rfl ?_
              refine xT.s1 hM rfl rfl ?_
              rw [show nI b + Int32.ofInt 2 = nI (b + 2) from nI_add b 2]
              refine xT.s2 hM rfl rfl (x2_put rfl h7 ⟨Or.inl rfl, rfl, by rw [f0]; decide, rfl, Or.inl rfl⟩) ?_
              refine xT.s1 hM rfl rfl ?_
              exact up (b + 2) _ (by omega) (by omega) (by rw [← hk, ← hF, x_set2])
          · rw [if_pos ((nI_leI (by omega) (by omega)).mpr (by omega))]; exact up b _ (by omega) hb2 hk.symm
        · rw [if_neg (show ¬ x_by gb tp (a + 1) = (Int8.ofInt 45).toInt32 from c3)]; exact xT.ret hM rfl rfl rfl rfl ⟨_, rfl, rfl, a, by omega, by omega, hS.same.symm⟩
      · rw [if_neg (show ¬ x_by gb tp a = (Int8.ofInt 45).toInt32 from c2)]; exact xT.ret hM rfl rfl rfl rfl ⟨_, rfl, rfl, a, by omega, by omega, hS.same.symm⟩
    · rw [if_pos ((nI_leI (by omega) (by omega)).mpr (by omega))]; exact xT.ret hM rfl rfl rfl rfl ⟨_, rfl, rfl, a, by omega, by omega, hS.same.symm⟩
end XS
