/-! String.equals, of new and old strings -/
section XQ
variable {e : xE} {d mi pc len tg x n n1 n2 : Nat} {L : ab_L} {S : List Value} {h : ab_H} {Q : ab_O → ab_H → Prop} {M : ab_M} {fl v v1 v2 r1 r2 x1 x2 : Value} {F : List Value} {f1 f2 : Nat → Int32}
theorem x_put2g (hc : r2.category = 1) : ab_put1 [(0, r1), (1, r2)] 2 x1 = [(2, x1), (0, r1), (1, r2)] := by simp [ab_put1, hc]
theorem x_put2h (hc : r2.category = 1) : ab_put1 [(2, x1), (0, r1), (1, r2)] 2 x2 = [(2, x2), (0, r1), (1, r2)] := by simp [ab_put1, hc]
theorem x_acmp {oa : Nat → Option (FieldType × Nat × (Nat → Value))} {F G : List Value} (h1 : j_sv h v1 F) (h2 : j_sv h v2 G) : ∃ t, ab_acmp oa x_oo v1 v2 = some t := by
  rcases h1 with ⟨a, rfl, ha⟩ | ⟨w, rfl, hw⟩
  · rcases h2 with ⟨b, rfl, hb⟩ | ⟨y, rfl, hy⟩
    · exact ⟨_, rfl⟩
    · exact ⟨false, by simp only [ab_acmp, hy, Option.isSome_some, true_or, if_true]⟩
  · rcases h2 with ⟨b, rfl, hb⟩ | ⟨y, rfl, hy⟩
    · exact ⟨false, by simp only [ab_acmp, hw, Option.isSome_some, true_or, if_true]⟩
    · by_cases hxy : w = y
      · exact ⟨true, by simp only [ab_acmp, if_pos hxy]⟩
      · exact ⟨false, by simp only [ab_acmp, if_neg hxy, hw, hy, Option.isSome_some, and_self, if_true]⟩
theorem xT.acn {off} (hM : (x_mt e.1)[mi]? = some M) (hf : ab_fe M pc = some (.if_acmp .ne off, len, tg)) (h7 : ab_th M pc = none) (h8 : ab_th0 M pc = none) {F G : List Value} (k1 : j_sv h v1 F) (k2 : j_sv h v2 G) (t1 : xT e d mi (pc + 3) L S h Q) (t2 : xT e d mi tg L S h Q) : xT e d mi pc L (v2 :: v1 :: S) h Q := by
  obtain ⟨t, ht⟩ := x_acmp (oa := x_oa e.2.1 e.2.2.1) k1 k2
  refine xT.s4 hM hf rfl rfl rfl rfl rfl rfl h7 h8 (pc' := if t = true then pc + 3 else tg) (S' := S) (h2 := h) (by simp only [ab_s4, ht]) ?_
  exact xT.br (fun _ => t1) (fun _ => t2)
theorem xT.sinst (hM : (x_mt e.1)[mi]? = some M) (hf : ab_fe M pc = some (.instanceof x, len, tg)) (hp : my_p M x = some (12, 9, n, fl)) (h7 : ab_th M pc = none) (h8 : ab_th0 M pc = none) (hs : j_sv h v F) (t : xT e d mi (pc + 3) L (.int 1 :: S) h Q) : xT e d mi pc L (v :: S) h Q := by
  refine xT.s5 hM hf rfl rfl rfl rfl rfl rfl h7 h8 rfl ?_ t
  rcases hs with ⟨a, rfl, ha⟩ | ⟨w, rfl, hw⟩
  · simp only [ab_s5, hp, ha, if_true]
  · simp only [ab_s5, hp, hw, if_true]
theorem xT.scast (hM : (x_mt e.1)[mi]? = some M) (hf : ab_fe M pc = some (.checkcast x, len, tg)) (hp : my_p M x = some (12, 9, n, fl)) (h7 : ab_th M pc = none) (h8 : ab_th0 M pc = none) (hs : j_sv h v F) (t : xT e d mi (pc + 3) L (v :: S) h Q) : xT e d mi pc L (v :: S) h Q := by
  rcases hs with ⟨a, rfl, ha⟩ | ⟨w, rfl, hw⟩
  · exact xT.s4 hM hf rfl rfl rfl rfl rfl rfl h7 h8 (by simp only [ab_s4, hp, ha, if_true]) t
  · exact xT.s5 hM hf rfl rfl rfl rfl rfl rfl h7 h8 (by simp only [ab_s4]) (by simp only [ab_s5, hp, hw, if_true]) t
theorem j_eqLoop (k1 : j_rw e h r1 n f1) (k2 : j_rw e h r2 n f2) (hn : n ≤ 20000) : ∀ (m i : Nat), n - i ≤ m → i ≤ n → xT e d 80 9 [(2, .int (nI i)), (0, r1), (1, r2)] [] h (fun o h' => ∃ v, o = .inl v ∧ (v = some (.int 0) ∨ v = some (.int 1)) ∧ h' = h) := by
  have hM : (x_mt e.1)[80]? = some xM80 := rfl
  intro m
  induction m with
  | zero =>
    intro i h1 h2
    have hi : i = n := by omega
    subst hi
    refine xT.s1 hM rfl rfl ?_
    refine xT.al hM rfl rfl k1.rv ?_
    refine xT.rlen hM rfl k1 ?_
    refine xT.s1 hM rfl rfl ?_
    refine xT.brT (nI_le (Nat.le_refl _) (by omega)) ?_
    refine xT.s1 hM rfl rfl ?_
    exact xT.ret hM rfl rfl rfl rfl (⟨_, rfl, Or.inr rfl, rfl⟩)
  | succ m ih =>
    intro i h1 h2
    refine xT.s1 hM rfl rfl ?_
    refine xT.al hM rfl rfl k1.rv ?_
    refine xT.rlen hM rfl k1 ?_
    refine xT.s1 hM rfl rfl ?_
    refine xT.br (fun hb => ?_) (fun hb => ?_)
    · refine xT.s1 hM rfl rfl ?_
      exact xT.ret hM rfl rfl rfl rfl (⟨_, rfl, Or.inr rfl, rfl⟩)
    · have hi2 : i < n := Nat.lt_of_not_le (fun z => hb (nI_le z (by omega)))
      refine xT.al hM rfl rfl k1.rv ?_
      refine xT.s1 hM rfl rfl ?_
      refine xT.rba hM rfl k1 hi2 (by omega) ?_
      refine xT.al hM rfl rfl k2.rv ?_
      refine xT.s1 hM rfl rfl ?_
      refine xT.rba hM rfl k2 (by omega) (by omega) ?_
      refine xT.s1 hM rfl rfl ?_
      refine xT.br (fun hb2 => ?_) (fun hb2 => ?_)
      · refine xT.s1 hM rfl rfl ?_
        rw [x_put2h k2.rv.cat, show nI i + Int32.ofInt 1 = nI (i + 1) from nI_add i 1]
        refine xT.s1 hM rfl rfl ?_
        exact ih (i + 1) (by omega) (by omega)
      · refine xT.s1 hM rfl rfl ?_
        exact xT.ret hM rfl rfl rfl rfl (⟨_, rfl, Or.inl rfl, rfl⟩)
theorem j_eqL (k1 : j_rw e h r1 n1 f1) (k2 : j_rw e h r2 n2 f2) (hn1 : n1 ≤ 20000) (hn2 : n2 ≤ 20000) : xT e d 80 0 [(0, r1), (1, r2)] [] h (fun o h' => ∃ v, o = .inl v ∧ (v = some (.int 0) ∨ v = some (.int 1)) ∧ h' = h) := by
  have hM : (x_mt e.1)[80]? = some xM80 := rfl
  refine xT.al hM rfl rfl k1.rv ?_
  refine xT.rlen hM rfl k1 ?_
  refine xT.al hM rfl rfl k2.rv ?_
  refine xT.rlen hM rfl k2 ?_
  refine xT.s1 hM rfl rfl ?_
  refine xT.br (fun hb => ?_) (fun hb => ?_)
  · have en : n1 = n2 := (nI_eq (by omega) (by omega)).mp hb
    subst en
    refine xT.s1 hM rfl rfl ?_
    refine xT.s1 hM rfl rfl ?_
    refine xT.cast (x_put2g k2.rv.cat) ?_
    exact j_eqLoop k1 k2 (by omega) n1 0 (by omega) (by omega)
  · refine xT.s1 hM rfl rfl ?_
    exact xT.ret hM rfl rfl rfl rfl (⟨_, rfl, Or.inl rfl, rfl⟩)
theorem j_equals (hS1 : j_str e h v1 n1) (hS2 : j_str e h v2 n2) : xT e (d + 1) 76 0 [(0, v1), (1, v2)] [] h (fun o h' => ∃ v, o = .inl v ∧ (v = some (.int 0) ∨ v = some (.int 1)) ∧ h' = h) := by
  obtain ⟨F1, r1, f1, k1, a0, a1, z1, l1⟩ := hS1
  obtain ⟨F2, r2, f2, k2, b0, b1, z2, l2⟩ := hS2
  have hM : (x_mt e.1)[76]? = some xM76 := rfl
  refine xT.al hM rfl rfl k1.rv ?_
  refine xT.al hM rfl rfl k2.rv ?_
  refine xT.acn hM rfl rfl rfl k1 k2 ?_ ?_
  · refine xT.s1 hM rfl rfl ?_
    exact xT.ret hM rfl rfl rfl rfl (⟨_, rfl, Or.inr rfl, rfl⟩)
  refine xT.al hM rfl rfl k2.rv ?_
  refine xT.sinst hM rfl rfl rfl rfl k2 ?_
  refine xT.s1 hM rfl rfl ?_
  refine xT.brF (by decide) ?_
  refine xT.al hM rfl rfl k2.rv ?_
  refine xT.scast hM rfl rfl rfl rfl k2 ?_
  refine xT.as hM rfl (by decide) k2.rv ?_
  refine xT.cast (x_put2g k2.rv.cat) ?_
  refine xT.s4 hM rfl rfl rfl rfl rfl rfl rfl rfl rfl rfl ?_
  refine xT.s1 hM rfl rfl ?_
  refine xT.brF (by decide) ?_
  refine xT.al hM rfl rfl k1.rv ?_
  refine xT.sget hM rfl rfl rfl rfl k1 a1 ?_
  refine xT.al hM rfl rfl k2.rv ?_
  refine xT.sget hM rfl rfl rfl rfl k2 b1 ?_
  refine xT.s1 hM rfl rfl ?_
  refine xT.brT (rfl) ?_
  refine xT.al hM rfl rfl k1.rv ?_
  refine xT.sget hM rfl rfl rfl rfl k1 a0 ?_
  refine xT.al hM rfl rfl k2.rv ?_
  refine xT.sget hM rfl rfl rfl rfl k2 b0 ?_
  refine xT.go hM rfl rfl rfl rfl rfl rfl (xc_stat rfl rfl ⟨rfl, Nat.le_of_ble_eq_true rfl⟩) rfl ⟨Nat.le_of_ble_eq_true rfl, by show (lg_sl [r1, r2]).length ≤ 3; rw [z1.rv.sl2 z2.rv.cat]; decide, by decide⟩ (xT.cast (z1.rv.lv2 _) (j_eqL z1 z2 l1.1 l2.1)) (fun v h2 hv => ?_)
  obtain ⟨hv, hh2⟩ := hv
  subst h2
  rcases hv with rfl | rfl
  · refine xT.s1 hM rfl rfl ?_
    refine xT.brT (rfl) ?_
    refine xT.s1 hM rfl rfl ?_
    exact xT.ret hM rfl rfl rfl rfl (⟨_, rfl, Or.inl rfl, rfl⟩)
  · refine xT.s1 hM rfl rfl ?_
    refine xT.brF (by decide) ?_
    refine xT.s1 hM rfl rfl ?_
    refine xT.s1 hM rfl rfl ?_
    exact xT.ret hM rfl rfl rfl rfl (⟨_, rfl, Or.inr rfl, rfl⟩)
end XQ
