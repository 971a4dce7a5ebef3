/-! the reference: numbers -/
/-- with from, and fields of their types -/
def m_M (h : ab_H) (q q8 : Nat) (gb : Nat → Int32) (F : List Value) (tp fr a : Nat) : Prop := m_S h q q8 gb F tp a ∧ (∃ t, F[6]? = some (.int t)) ∧ F[7]? = some (.int (nI fr)) ∧ ∃ n, F[9]? = some (.long n)
/-- all fields alike but token, number, at -/
def m_ag (F F' : List Value) : Prop := ∀ i, i ≠ 6 → i ≠ 9 → i ≠ 11 → F'[i]? = F[i]?
theorem m_ag.rf (F : List Value) : m_ag F F := fun _ _ _ _ => rfl
theorem m_ag.tr {F G K : List Value} (h1 : m_ag F G) (h2 : m_ag G K) : m_ag F K := fun i a b c => (h2 i a b c).trans (h1 i a b c)
theorem m_ag.set {F G : List Value} (h : m_ag F G) {i : Nat} (hi : i = 6 ∨ i = 9 ∨ i = 11) (v : Value) : m_ag F (G.set i v) := fun j a b c => by
  rw [List.getElem?_set_ne (by omega)]; exact h j a b c
theorem m_M.set6 {h : ab_H} {q q8 : Nat} {gb : Nat → Int32} {F : List Value} {tp fr a : Nat} (hS : m_M h q q8 gb F tp fr a) (t : Int32) : m_M (h.set q (.inr (3, F.set 6 (.int t)))) q q8 gb (F.set 6 (.int t)) tp fr a := by
  obtain ⟨⟨h1, h2, h3, h4, h5, h6, h7, h8⟩, h9, h10, h11⟩ := hS
  have hl := (List.getElem?_eq_some_iff.mp h1).1
  refine ⟨⟨by rw [List.getElem?_set_self hl], by rw [List.length_set]; exact h2, ?_, ?_, ?_, ?_, h7, h8⟩, ⟨t, by rw [List.getElem?_set_self (by rw [h2]; decide)]⟩, ?_, ?_⟩
  · rw [List.getElem?_set_ne (by decide)]; exact h3
  · rw [List.getElem?_set_ne (by decide)]; exact h4
  · rw [List.getElem?_set_ne (by decide)]; exact h5
  · rw [List.getElem?_set_ne h7]; exact h6
  · rw [List.getElem?_set_ne (by decide)]; exact h10
  · rw [List.getElem?_set_ne (by decide)]; exact h11
theorem m_M.set9 {h : ab_H} {q q8 : Nat} {gb : Nat → Int32} {F : List Value} {tp fr a : Nat} (hS : m_M h q q8 gb F tp fr a) (t : Int64) : m_M (h.set q (.inr (3, F.set 9 (.long t)))) q q8 gb (F.set 9 (.long t)) tp fr a := by
  obtain ⟨⟨h1, h2, h3, h4, h5, h6, h7, h8⟩, h9, h10, h11⟩ := hS
  have hl := (List.getElem?_eq_some_iff.mp h1).1
  refine ⟨⟨by rw [List.getElem?_set_self hl], by rw [List.length_set]; exact h2, ?_, ?_, ?_, ?_, h7, h8⟩, ?_, ?_, ⟨t, by rw [List.getElem?_set_self (by rw [h2]; decide)]⟩⟩
  · rw [List.getElem?_set_ne (by decide)]; exact h3
  · rw [List.getElem?_set_ne (by decide)]; exact h4
  · rw [List.getElem?_set_ne (by decide)]; exact h5
  · rw [List.getElem?_set_ne h7]; exact h6
  · rw [List.getElem?_set_ne (by decide)]; exact h9
  · rw [List.getElem?_set_ne (by decide)]; exact h10
theorem m_M.put {h : ab_H} {q q8 : Nat} {gb : Nat → Int32} {F : List Value} {tp fr a : Nat} (hS : m_M h q q8 gb F tp fr a) (a' : Nat) : m_M (h.set q (.inr (3, F.set 11 (.int (nI a'))))) q q8 gb (F.set 11 (.int (nI a'))) tp fr a' := by
  obtain ⟨hS, h9, h10, h11⟩ := hS
  refine ⟨hS.put a', ?_, ?_, ?_⟩
  · rw [List.getElem?_set_ne (by decide)]; exact h9
  · rw [List.getElem?_set_ne (by decide)]; exact h10
  · rw [List.getElem?_set_ne (by decide)]; exact h11
theorem x_le1 (q : Nat) (v : Value) : ab_le [(0, .ref q)] (ab_put1 [(0, .ref q)] 1 v) := by
  refine ⟨fun x hx => ?_, ?_⟩
  · simp only [List.mem_singleton] at hx
    subst hx
    exact List.mem_cons_of_mem _ (List.mem_filter.mpr ⟨List.mem_singleton.mpr rfl, rfl⟩)
  · show ([1, 0] : List Nat).Nodup
    decide
section XN
variable {e : xE} {d q q8 tp fr : Nat} {gb : Nat → Int32}
theorem m_numLoop {Q : ab_O → ab_H → Prop} : ∀ (n a : Nat) (F : List Value) (h : ab_H), m_M h q q8 gb F tp fr a → tp - a ≤ n → a ≤ tp → (∀ (a' : Nat) (F' : List Value) (h' : ab_H), a ≤ a' → a' ≤ tp → ¬ x_isD (x_by gb tp a') = true → h' = h.set q (.inr (3, F')) → m_M h' q q8 gb F' tp fr a' → m_ag F F' → xT e (d + 1) 21 88 [(0, .ref q)] [] h' Q) → xT e (d + 1) 21 10 [(0, .ref q)] [] h Q := by
  have hM : (x_mt e.1)[21]? = some xM21 := rfl
  intro n
  induction n with
  | zero =>
    intro a F h hS hn ha k
    obtain ⟨⟨h7, f0, f1, f2, f11, h8, hne, htp⟩, ⟨t6, f6⟩, f7, n9, f9⟩ := id hS
    have hno : ¬ x_isD (x_by gb tp a) = true := fun z => absurd (x_isD_by z) (by omega)
    have out := k a F h (by omega) ha hno (by
      apply List.ext_getElem?
      intro i
      by_cases hi : i = q
      · subst hi; rw [List.getElem?_set_self (List.getElem?_eq_some_iff.mp h7).1]; exact h7
      · rw [List.getElem?_set_ne (Ne.symm hi)]) hS (m_ag.rf F)
    refine xT.s1 hM rfl rfl ?_
    refine xT.s1 hM rfl rfl ?_
    refine xT.s1 hM rfl rfl ?_
    refine xT.s2 hM rfl rfl (x2_get rfl (Or.inl rfl) h7 f11) ?_
    refine xT.go hM rfl rfl rfl rfl rfl rfl (xc_virt rfl rfl rfl h7 ⟨rfl, Nat.le_of_ble_eq_true rfl, rfl, Or.inl rfl⟩) rfl ⟨Nat.le_of_ble_eq_true rfl, Nat.le_of_ble_eq_true rfl, by decide⟩ (m_byteAt hS.1 (k := a) (by omega)) (fun v h2 hv => ?_)
    obtain ⟨rfl, hh2⟩ := hv
    subst h2
    refine xT.go hM rfl rfl rfl rfl rfl rfl (xc_virt rfl rfl rfl h7 ⟨rfl, Nat.le_of_ble_eq_true rfl, rfl, Or.inl rfl⟩) rfl ⟨Nat.le_of_ble_eq_true rfl, Nat.le_of_ble_eq_true rfl, by decide⟩ (m_digit (x_by gb tp a)) (fun v h2 hv => ?_)
    obtain ⟨rfl, hh2⟩ := hv
    subst h2
    refine xT.s1 hM rfl rfl ?_
    rw [if_neg hno]
    exact out
  | succ n ih =>
    intro a F h hS hn ha k
    obtain ⟨⟨h7, f0, f1, f2, f11, h8, hne, htp⟩, ⟨t6, f6⟩, f7, n9, f9⟩ := id hS
    refine xT.s1 hM rfl rfl ?_
    refine xT.s1 hM rfl rfl ?_
    refine xT.s1 hM rfl rfl ?_
    refine xT.s2 hM rfl rfl (x2_get rfl (Or.inl rfl) h7 f11) ?_
    refine xT.go hM rfl rfl rfl rfl rfl rfl (xc_virt rfl rfl rfl h7 ⟨rfl, Nat.le_of_ble_eq_true rfl, rfl, Or.inl rfl⟩) rfl ⟨Nat.le_of_ble_eq_true rfl, Nat.le_of_ble_eq_true rfl, by decide⟩ (m_byteAt hS.1 (k := a) (by omega)) (fun v h2 hv => ?_)
    obtain ⟨rfl, hh2⟩ := hv
    subst h2
    refine xT.go hM rfl rfl rfl rfl rfl rfl (xc_virt rfl rfl rfl h7 ⟨rfl, Nat.le_of_ble_eq_true rfl, rfl, Or.inl rfl⟩) rfl ⟨Nat.le_of_ble_eq_true rfl, Nat.le_of_ble_eq_true rfl, by decide⟩ (m_digit (x_by gb tp a)) (fun v h2 hv => ?_)
    obtain ⟨rfl, hh2⟩ := hv
    subst h2
    refine xT.s1 hM rfl rfl ?_
    by_cases hd : x_isD (x_by gb tp a) = true
    · rw [if_pos hd]
      show xT e (d + 1) 21 25 _ _ _ _
      have hlt := x_isD_by hd
      refine xT.s1 hM rfl rfl ?_
      refine xT.s1 hM rfl rfl ?_
      refine xT.s2 hM rfl rfl (x2_get rfl (Or.inl rfl) h7 f11) ?_
      refine xT.go hM rfl rfl rfl rfl rfl rfl (xc_virt rfl rfl rfl h7 ⟨rfl, Nat.le_of_ble_eq_true rfl, rfl, Or.inl rfl⟩) rfl ⟨Nat.le_of_ble_eq_true rfl, Nat.le_of_ble_eq_true rfl, by decide⟩ (m_byteAt hS.1 (k := a) (by omega)) (fun v h2 hv => ?_)
      obtain ⟨rfl, hh2⟩ := hv
      subst h2
      refine xT.s1 hM rfl rfl ?_
      refine xT.s1 hM rfl rfl ?_
      refine xT.s1 hM rfl rfl ?_
      refine xT.s1 hM rfl rfl ?_
      refine xT.s2 hM rfl rfl (x2_get rfl (Or.inl rfl) h7 f9) ?_
      refine xT.s2 hM rfl rfl rfl ?_
      refine xT.s1 hM rfl rfl ?_
      refine xT.s1 hM rfl rfl ?_
      refine xT.s1 hM rfl rfl ?_
      refine xT.s2 hM rfl rfl rfl ?_
      refine xT.s1 hM rfl rfl ?_
      refine xT.s1 hM rfl rfl ?_
      refine xT.s1 hM rfl rfl ?_
      generalize x_by gb tp a - (Int8.ofInt 48).toInt32 = dg
      have step : ∀ (F1 : List Value) (h1 : ab_H), h1 = h.set q (.inr (3, F1)) → m_M h1 q q8 gb F1 tp fr a → m_ag F F1 → xT e (d + 1) 21 60 (ab_put1 [(0, .ref q)] 1 (.int dg)) [] h1 Q := by
        intro F1 h1 eh hS1 hag
        obtain ⟨⟨h7, f0, f1, f2, f11, h8, hne, htp⟩, ⟨t6, f6⟩, f7, n9, f9⟩ := id hS1
        refine xT.s1 hM rfl rfl ?_
        refine xT.s2 hM rfl rfl rfl ?_
        refine xT.s1 hM rfl rfl ?_
        refine xT.s2 hM rfl rfl (x2_get rfl (Or.inl rfl) h7 f9) ?_
        refine xT.s1 hM rfl rfl ?_
        refine xT.s1 hM rfl rfl ?_
        refine xT.s1 hM rfl rfl ?_
        refine xT.s1 hM rfl rfl ?_
        refine xT.s2 hM rfl rfl (x2_put rfl h7 ⟨Or.inl rfl, rfl, by rw [f0]; decide, rfl, Or.inl rfl⟩) ?_
        have hS2 := hS1.set9
        generalize hv : (10 : Int64) * n9 + dg.toInt64 = nv
        have hS2 := hS1.set9 nv
        generalize hF2 : F1.set 9 (.long nv) = F2 at hS2
        generalize hh2 : h1.set q (.inr (3, F2)) = h2 at hS2
        obtain ⟨⟨h7, f0, f1, f2, f11, h8, hne, htp⟩, ⟨t6, f6⟩, f7, n9', f9⟩ := id hS2
        refine xT.s1 hM rfl rfl ?_
        refine xT.s1 hM rfl rfl ?_
        refine xT.s2 hM rfl rfl (x2_get rfl (Or.inl rfl) h7 f11) ?_
        refine xT.s1 hM rfl rfl ?_
        refine xT.s1 hM rfl rfl ?_
        rw [show nI a + Int32.ofInt 1 = nI (a + 1) from nI_add a 1]
        refine xT.s2 hM rfl rfl (x2_put rfl h7 ⟨Or.inl rfl, rfl, by rw [f0]; decide, rfl, Or.inl rfl⟩) ?_
        refine xT.s1 hM rfl rfl ?_
        refine xT.weak (x_le1 q _) ?_
        refine ih (a + 1) _ _ (hS2.put (a + 1)) (by omega) (by omega) (fun a' F' h' w1 w2 w3 w4 w5 w6 => ?_)
        refine k a' F' h' (by omega) w2 w3 ?_ w5 ?_
        · rw [w4, ← hh2, eh, List.set_set, List.set_set, List.set_set]
        · refine (hag.tr ?_).tr ((m_ag.rf F2).set (Or.inr (Or.inr rfl)) _ |>.tr w6)
          rw [← hF2]
          exact (m_ag.rf F1).set (Or.inr (Or.inl rfl)) _
      have same : h = h.set q (.inr (3, F)) := by
        apply List.ext_getElem?
        intro i
        by_cases hi : i = q
        · subst hi; rw [List.getElem?_set_self (List.getElem?_eq_some_iff.mp h7).1]; exact h7
        · rw [List.getElem?_set_ne (Ne.symm hi)]
      split
      · exact step F h same hS (m_ag.rf F)
      · refine xT.s1 hM rfl rfl ?_
        refine xT.s1 hM rfl rfl ?_
        refine xT.s2 hM rfl rfl (x2_put rfl h7 ⟨Or.inl rfl, rfl, by rw [f0]; decide, rfl, Or.inl rfl⟩) ?_
        exact step _ _ rfl (hS.set6 _) ((m_ag.rf F).set (Or.inl rfl) _)
    · rw [if_neg hd]
      refine k a F h (by omega) ha hd ?_ hS (m_ag.rf F)
      apply List.ext_getElem?
      intro i
      by_cases hi : i = q
      · subst hi; rw [List.getElem?_set_self (List.getElem?_eq_some_iff.mp h7).1]; exact h7
      · rw [List.getElem?_set_ne (Ne.symm hi)]
end XN
