/-! the JDK: StringBuilder's append -/
theorem x_byteF (y : Int32) : fits .byte (.int y.toInt8.toInt32) = true := by
  have h1 := Int8.le_toInt y.toInt8
  have h2 := Int8.toInt_lt y.toInt8
  have h3 : (y.toInt8.toInt32).toInt = y.toInt8.toInt := Int8.toInt_toInt32 _
  simp only [fits, Bool.and_eq_true, decide_eq_true_eq, Int32.le_iff_toInt_le, h3]
  have e1 : (-128 : Int32).toInt = -128 := by decide
  have e2 : (127 : Int32).toInt = 127 := by decide
  rw [e1, e2]
  omega
theorem x_updI (f : Nat → Int32) (k : Nat) (y : Int32) : updV (fun j => Value.int (f j)) k (.int y) = fun j => .int (if j = k then y else f j) := by
  funext j
  unfold updV
  by_cases hj : j = k
  · rw [if_pos hj, if_pos hj]
  · rw [if_neg hj, if_neg hj]
section XA
variable {e : xE} {d q qv n c : Nat} {fs : List Value} {f : Nat → Int32} {h : ab_H} {y : Int32}
/-- behind the row's growth -/
theorem j_appT (hS : j_SB h q qv fs n c f) (hlt : c < n) (hy : y ≤ 255) : xT e (d + 1) 87 10 [(0, .ref q), (1, .int y)] [] h (fun o h' => ∃ v, o = .inl v ∧ v = some (.ref q) ∧ ∃ fs' f', j_SB h' q qv fs' n (c + 1) f' ∧ (∀ (k : Nat) (x : ab_E), h[k]? = some x → k ≠ q → k ≠ qv → h'[k]? = some x) ∧ h'.length = h.length ∧ ab_sz h' = ab_sz h) := by
  obtain ⟨hq, hl, f0, f1, f3, hB, hne, hc, hn⟩ := hS
  have hB1 := hB.1
  have hM : (x_mt e.1)[87]? = some xM87 := rfl
  refine xT.s1 hM rfl rfl ?_
  refine xT.go hM rfl rfl rfl rfl rfl rfl (xc_inh rfl rfl rfl hq ⟨rfl, Nat.le_of_ble_eq_true rfl⟩) rfl ⟨Nat.le_of_ble_eq_true rfl, Nat.le_of_ble_eq_true rfl, by decide⟩ (j_isLatin1 hq f1) (fun v h2 hv => ?_)
  obtain ⟨rfl, hh2⟩ := hv
  subst h2
  refine xT.s1 hM rfl rfl ?_
  refine xT.brF (by decide) ?_
  refine xT.s1 hM rfl rfl ?_
  refine xT.go hM rfl rfl rfl rfl rfl rfl (xc_stat rfl rfl ⟨rfl, Nat.le_of_ble_eq_true rfl⟩) rfl ⟨Nat.le_of_ble_eq_true rfl, Nat.le_of_ble_eq_true rfl, by decide⟩ (j_canEncode hy) (fun v h2 hv => ?_)
  obtain ⟨rfl, hh2⟩ := hv
  subst h2
  refine xT.s1 hM rfl rfl ?_
  refine xT.brF (by decide) ?_
  refine xT.s1 hM rfl rfl ?_
  refine xT.s2 hM rfl rfl (x2_get rfl (Or.inl rfl) hq f0) ?_
  refine xT.s1 hM rfl rfl ?_
  refine xT.s1 hM rfl rfl ?_
  refine xT.s2 hM rfl rfl (x2_get rfl (Or.inl rfl) hq f3) ?_
  refine xT.s1 hM rfl rfl ?_
  refine xT.s1 hM rfl rfl ?_
  refine xT.s1 hM rfl rfl ?_
  rw [show nI c + Int32.ofInt 1 = nI (c + 1) from nI_add c 1]
  refine xT.put hM rfl rfl hq (Or.inl rfl) (by rw [hl]; decide) (rfl) (Or.inl rfl) (fun h_1 F_1 eF1 eh1 up1 fb1 fo1 fl1 => ?_)
  replace hB1 := (up1.2.1 _ (x_neq hB1 hq (by simp))).trans hB1
  replace hq := up1.1
  replace hl := fl1.trans hl
  replace f0 := (fo1 0 (by decide)).trans f0
  replace f1 := (fo1 1 (by decide)).trans f1
  replace f3 := fb1
  refine xT.s1 hM rfl rfl ?_
  refine xT.s1 hM rfl rfl ?_
  refine xT.bast hM rfl hB1 hlt (by omega) (fun h3 e3 up3 => ?_)
  rw [x_updI] at e3 up3
  replace hq := (up3.2.1 _ (x_neq hq hB1 (by simp))).trans hq
  refine xT.s1 hM rfl rfl ?_
  refine xT.s1 hM rfl rfl ?_
  exact xT.ret hM rfl rfl rfl rfl (⟨_, rfl, rfl, _, _, ⟨hq, hl, f0, f1, f3, ⟨up3.1, fun j => by
      by_cases hj : j = c
      · rw [if_pos hj]; exact x_byteF _
      · rw [if_neg hj]; exact hB.2 j⟩, x_neq hq up3.1 (by simp), by omega, hn⟩, fun k x hk n1 n2 => ((up3.2.1 k n2).trans (up1.2.1 k n1)).trans hk, up3.2.2.1.trans up1.2.2.1, up3.2.2.2.trans up1.2.2.2⟩)
/-- append: what it answers, what stays, what it costs -/
theorem j_append87 (hS : j_SB h q qv fs n c f) (hn2 : n ≤ 9000) (hy : y ≤ 255) (r1 : h.length + 1 ≤ e.2.2.2.1) (r2 : ab_sz h + (2 * n + 2) ≤ e.2.2.2.2.1) : xT e (d + 4) 87 0 [(0, .ref q), (1, .int y)] [] h (fun o h' => ∃ v, o = .inl v ∧ v = some (.ref q) ∧ ∃ qv' fs' n' f', j_SB h' q qv' fs' n' (c + 1) f' ∧ (∀ (k : Nat) (x : ab_E), h[k]? = some x → k ≠ q → k ≠ qv → h'[k]? = some x) ∧ ((qv' = qv ∧ n' = n ∧ h'.length = h.length ∧ ab_sz h' = ab_sz h) ∨ (c = n ∧ qv' = h.length ∧ n' = 2 * n + 2 ∧ h'.length = h.length + 1 ∧ ab_sz h' = ab_sz h + (2 * n + 2)))) := by
  obtain ⟨hq, hl, f0, f1, f3, hB, hne, hc, hn⟩ := id hS
  have hM : (x_mt e.1)[87]? = some xM87 := rfl
  refine xT.s1 hM rfl rfl ?_
  refine xT.s1 hM rfl rfl ?_
  refine xT.s2 hM rfl rfl (x2_get rfl (Or.inl rfl) hq f3) ?_
  refine xT.s1 hM rfl rfl ?_
  refine xT.s1 hM rfl rfl ?_
  rw [show nI c + Int32.ofInt 1 = nI (c + 1) from nI_add c 1]
  refine xT.go hM rfl rfl rfl rfl rfl rfl (xc_inh rfl rfl rfl hq ⟨rfl, Nat.le_of_ble_eq_true rfl⟩) rfl ⟨Nat.le_of_ble_eq_true rfl, Nat.le_of_ble_eq_true rfl, by decide⟩ (j_ensure hS hn2 r1 r2) (fun v h2 hv => ?_)
  obtain ⟨rfl, hv⟩ := hv
  rcases hv with ⟨hlt, rfl⟩ | ⟨rfl, rfl⟩
  · refine (j_appT hS hlt hy).mono (fun o h' ho => ?_)
    obtain ⟨v, h1, h2, fs', f', h3, h4, h5, h6⟩ := ho
    exact ⟨v, h1, h2, qv, fs', n, f', h3, h4, Or.inl ⟨rfl, rfl, h5, h6⟩⟩
  · have w := x_nw_push h (.inl (0, 2 * c + 2, fun j => .int (j_cp f c j)))
    have hq1 := w.2.1 _ _ hq
    have u := x_up_set (x := .inr (12, fs.set 0 (.ref h.length))) hq1 (by show (fs.set 0 _).length = fs.length; rw [List.length_set])
    have hne2 : h.length ≠ q := fun z => by have := x_lt hq; omega
    have hS2 : j_SB _ q h.length (fs.set 0 (.ref h.length)) (2 * c + 2) c (j_cp f c) := ⟨u.1, by rw [List.length_set]; exact hl, List.getElem?_set_self (by rw [hl]; decide), by rw [List.getElem?_set_ne (by decide)]; exact f1, by rw [List.getElem?_set_ne (by decide)]; exact f3, ⟨(u.2.1 _ hne2).trans w.1, j_cp_fits hB.2⟩, Ne.symm hne2, by omega, by omega⟩
    refine (j_appT hS2 (by omega) hy).mono (fun o h' ho => ?_)
    obtain ⟨v, h1, h2, fs', f', h3, h4, h5, h6⟩ := ho
    refine ⟨v, h1, h2, h.length, fs', 2 * c + 2, f', h3, fun k x hk n1 n2 => h4 k x ((u.2.1 k n1).trans (w.2.1 k x hk)) n1 (fun z => by have := x_lt hk; omega), Or.inr ⟨rfl, rfl, rfl, ?_, ?_⟩⟩
    · rw [h5, u.2.2.1, w.2.2.1]
    · rw [h6, u.2.2.2, w.2.2.2]; rfl
theorem j_append (hS : j_SB h q qv fs n c f) (hn2 : n ≤ 9000) (hy : y ≤ 255) (r1 : h.length + 1 ≤ e.2.2.2.1) (r2 : ab_sz h + (2 * n + 2) ≤ e.2.2.2.2.1) : xT e (d + 5) 83 0 [(0, .ref q), (1, .int y)] [] h (fun o h' => ∃ v, o = .inl v ∧ v = some (.ref q) ∧ ∃ qv' fs' n' f', j_SB h' q qv' fs' n' (c + 1) f' ∧ (∀ (k : Nat) (x : ab_E), h[k]? = some x → k ≠ q → k ≠ qv → h'[k]? = some x) ∧ ((qv' = qv ∧ n' = n ∧ h'.length = h.length ∧ ab_sz h' = ab_sz h) ∨ (c = n ∧ qv' = h.length ∧ n' = 2 * n + 2 ∧ h'.length = h.length + 1 ∧ ab_sz h' = ab_sz h + (2 * n + 2)))) := by
  obtain ⟨hq, hl, f0, f1, f3, hB, hne, hc, hn⟩ := id hS
  have hM : (x_mt e.1)[83]? = some xM83 := rfl
  refine xT.s1 hM rfl rfl ?_
  refine xT.s1 hM rfl rfl ?_
  refine xT.go hM rfl rfl rfl rfl rfl rfl (xc_sup rfl rfl rfl hq ⟨rfl, Nat.le_of_ble_eq_true rfl, by decide⟩) rfl ⟨Nat.le_of_ble_eq_true rfl, Nat.le_of_ble_eq_true rfl, by decide⟩ (j_append87 hS hn2 hy r1 r2) (fun v h2 hv => ?_)
  obtain ⟨rfl, hv⟩ := hv
  refine xT.s1 hM rfl rfl ?_
  refine xT.s1 hM rfl rfl ?_
  exact xT.ret hM rfl rfl rfl rfl (⟨_, rfl, rfl, hv⟩)
end XA
