/-! the law's own calls of the class: the nine -/
/-- how the law's own calls leave the class -/
def w_P (h : ab_H) (q0 qt qb ql qa qo len' cap c5 z : Nat) (y' : Int64) (h' : ab_H) : Prop := ∃ (gb' : Nat → Int32) (cap' : Nat), w_S h' q0 qt qb ql qa qo gb' len' cap' y' ∧ w_fr h h' qb ql qo ∧ h.length ≤ h'.length ∧ cap ≤ cap' ∧ 5 * h'.length + cap ≤ 5 * h.length + c5 + cap' ∧ ab_sz h' + 4 * cap ≤ ab_sz h + z + 4 * cap'
section XWS
variable {e : xE} {d q0 qt qb ql qa qo len cap : Nat} {gb : Nat → Int32} {h h' : ab_H} {y0 : Int64}
theorem x_updF (y z : Int64) : updV (fun _ => Value.long y) 0 (.long z) 0 = .long z := x_upd1 _ _ _
/-- thrown, and nothing else done -/
theorem w_P.thrown {c0 ce xq : Nat} (hW : w_S h q0 qt qb ql qa qo gb len cap y0) (hc : c0 ≠ 10) (k : c_TH h c0 ce xq h') : ce = c0 ∧ ab_isx h' xq ce = true ∧ w_P h q0 qt qb ql qa qo len cap 5 6 y0 h' := by
  obtain ⟨k1, k2, k3, k4, k5, k6⟩ := w_thrown hW hc k
  exact ⟨k1, k2, gb, cap, k3, k4, by omega, by omega, by omega, by omega⟩
/-- the answer is written -/
theorem w_P.out {cap' c5 z sz th ta qe bh eh ba ea len' : Nat} {kh ka : Int32} {gb' : Nat → Int32} {h1 : ab_H} {y : Int64} (hS : c_S h' q0 qt qb ql th ta qa qe gb' len' cap' sz kh bh eh ka ba ea) (hsz : sz ≤ 8000) (hc : cap' ≤ 17010) (fr : c_fr h h' qb ql) {f : Nat → Value} (ho : h'[qo]? = some (.inl (2, 1, f))) (u : x_up h' qo h1 (.inl (2, 1, updV f 0 (.long y)))) (hl : h.length ≤ h'.length) (k1 : cap ≤ cap') (k2 : 5 * h'.length + cap ≤ 5 * h.length + c5 + cap') (k3 : ab_sz h' + 4 * cap ≤ ab_sz h + z + 4 * cap') : w_P h q0 qt qb ql qa qo len' cap c5 z y h1 := by
  refine ⟨gb', cap', ⟨⟨th, ta, qe, sz, kh, bh, eh, ka, ba, ea, hS.row2 u ho, hsz⟩, hc, ?_⟩, ?_, ?_, k1, ?_, ?_⟩
  · exact ⟨_, u.1, x_upd1 _ _ _⟩
  · intro k x hk n1 n2 n3 n4 n5
    rw [u.2.1 k n3]
    exact fr k x hk n1 n2 n4 n5
  · rw [u.2.2.1]; exact hl
  · rw [u.2.2.1]; exact k2
  · rw [u.2.2.2]; exact k3
theorem w_count {c : Int32} (hW : w_S h q0 qt qb ql qa qo gb len cap y0) (r1 : h.length + 1 ≤ e.2.2.2.1) (r2 : ab_sz h + 6 ≤ e.2.2.2.2.1) : xT e (d + 2) 9 0 [(0, .ref q0), (1, .int c), (2, .ref qo)] [] h (fun o h' => ∃ v, o = .inl v ∧ ∃ (k : Int32) (y : Int64), v = some (.int k) ∧ w_P h q0 qt qb ql qa qo len cap 5 6 y h') := by
  have hM : (x_mt e.1)[9]? = some xM9 := rfl
  obtain ⟨⟨th, ta, qe, sz, kh, bh, eh, ka, ba, ea, hS, hsz⟩, hc17, fo, ho, ho1⟩ := id hW
  obtain ⟨⟨F0, hq, -⟩, ⟨Ft, gl, kp, hT⟩, -⟩ := id hS
  have nb : qo ≠ qb := x_neq ho hT.2.2.2.2.2.2.2.2.1 (by simp)
  have nl : qo ≠ ql := x_neq ho hT.2.2.2.2.2.2.2.2.2.1 (by simp)
  refine xT.s1 hM rfl rfl ?_
  refine xT.s1 hM rfl rfl ?_
  refine xT.s1 hM rfl rfl ?_
  refine xT.s1 hM rfl rfl ?_
  refine xT.call hM rfl rfl rfl rfl rfl rfl (xc_virt rfl rfl rfl hq ⟨rfl, Nat.le_of_ble_eq_true rfl, rfl, Or.inl rfl⟩) rfl ⟨Nat.le_of_ble_eq_true rfl, Nat.le_of_ble_eq_true rfl, by decide⟩ (c_count hS r1 r2) (fun v h2 hv => ?_) (fun ce xq h2 he => Or.inr ⟨(fun z => by cases z), ?_⟩)
  · obtain ⟨⟨zv, rfl⟩, rfl⟩ := hv
    have ho2 := ho
    refine xT.s1 hM rfl rfl ?_
    refine xT.last (k := 0) hM rfl ho2 (by omega) (by omega) (fun h3 e3 u3 => ?_)
    refine xT.s1 hM rfl rfl ?_
    refine xT.s1 hM rfl rfl ?_
    exact xT.ret hM rfl rfl rfl rfl (⟨_, rfl, _, _, rfl, w_P.out hS hsz hc17 (c_fr.rf _ _ _) ho2 u3 (Nat.le_refl _) (Nat.le_refl _) (by omega) (by omega)⟩)
  · obtain ⟨rfl, hix, hP⟩ := w_P.thrown hW (by decide) he
    refine ⟨hix, 12, rfl, ?_⟩
    refine xT.s1 hM rfl rfl ?_
    refine xT.s1 hM rfl rfl ?_
    exact xT.ret hM rfl rfl rfl rfl (⟨_, rfl, _, _, rfl, hP⟩)
theorem w_node {c w : Int32} (hW : w_S h q0 qt qb ql qa qo gb len cap y0) (r1 : h.length + 1 ≤ e.2.2.2.1) (r2 : ab_sz h + 6 ≤ e.2.2.2.2.1) : xT e (d + 5) 4 0 [(0, .ref q0), (1, .int c), (2, .int w), (3, .ref qo)] [] h (fun o h' => ∃ v, o = .inl v ∧ ∃ (k : Int32) (y : Int64), v = some (.int k) ∧ w_P h q0 qt qb ql qa qo len cap 5 6 y h') := by
  have hM : (x_mt e.1)[4]? = some xM4 := rfl
  obtain ⟨⟨th, ta, qe, sz, kh, bh, eh, ka, ba, ea, hS, hsz⟩, hc17, fo, ho, ho1⟩ := id hW
  obtain ⟨⟨F0, hq, -⟩, ⟨Ft, gl, kp, hT⟩, -⟩ := id hS
  have nb : qo ≠ qb := x_neq ho hT.2.2.2.2.2.2.2.2.1 (by simp)
  have nl : qo ≠ ql := x_neq ho hT.2.2.2.2.2.2.2.2.2.1 (by simp)
  refine xT.s1 hM rfl rfl ?_
  refine xT.s1 hM rfl rfl ?_
  refine xT.s1 hM rfl rfl ?_
  refine xT.s1 hM rfl rfl ?_
  refine xT.s1 hM rfl rfl ?_
  refine xT.call hM rfl rfl rfl rfl rfl rfl (xc_virt rfl rfl rfl hq ⟨rfl, Nat.le_of_ble_eq_true rfl, rfl, Or.inl rfl⟩) rfl ⟨Nat.le_of_ble_eq_true rfl, Nat.le_of_ble_eq_true rfl, by decide⟩ (c_nodeQ hS r1 r2) (fun v h2 hv => ?_) (fun ce xq h2 he => Or.inr ⟨(fun z => by cases z), ?_⟩)
  · obtain ⟨⟨zv, rfl⟩, rfl⟩ := hv
    have ho2 := ho
    refine xT.s1 hM rfl rfl ?_
    refine xT.last (k := 0) hM rfl ho2 (by omega) (by omega) (fun h3 e3 u3 => ?_)
    refine xT.s1 hM rfl rfl ?_
    refine xT.s1 hM rfl rfl ?_
    exact xT.ret hM rfl rfl rfl rfl (⟨_, rfl, _, _, rfl, w_P.out hS hsz hc17 (c_fr.rf _ _ _) ho2 u3 (Nat.le_refl _) (Nat.le_refl _) (by omega) (by omega)⟩)
  · obtain ⟨rfl, hix, hP⟩ := w_P.thrown hW (by decide) he
    refine ⟨hix, 13, rfl, ?_⟩
    refine xT.s1 hM rfl rfl ?_
    refine xT.s1 hM rfl rfl ?_
    exact xT.ret hM rfl rfl rfl rfl (⟨_, rfl, _, _, rfl, hP⟩)
theorem w_number {c : Int32} (hW : w_S h q0 qt qb ql qa qo gb len cap y0) (r1 : h.length + 1 ≤ e.2.2.2.1) (r2 : ab_sz h + 6 ≤ e.2.2.2.2.1) : xT e (d + 5) 6 0 [(0, .ref q0), (1, .int c), (2, .ref qo)] [] h (fun o h' => ∃ v, o = .inl v ∧ ∃ (k : Int32) (y : Int64), v = some (.int k) ∧ w_P h q0 qt qb ql qa qo len cap 5 6 y h') := by
  have hM : (x_mt e.1)[6]? = some xM6 := rfl
  obtain ⟨⟨th, ta, qe, sz, kh, bh, eh, ka, ba, ea, hS, hsz⟩, hc17, fo, ho, ho1⟩ := id hW
  obtain ⟨⟨F0, hq, -⟩, ⟨Ft, gl, kp, hT⟩, -⟩ := id hS
  have nb : qo ≠ qb := x_neq ho hT.2.2.2.2.2.2.2.2.1 (by simp)
  have nl : qo ≠ ql := x_neq ho hT.2.2.2.2.2.2.2.2.2.1 (by simp)
  refine xT.s1 hM rfl rfl ?_
  refine xT.s1 hM rfl rfl ?_
  refine xT.s1 hM rfl rfl ?_
  refine xT.s1 hM rfl rfl ?_
  refine xT.call hM rfl rfl rfl rfl rfl rfl (xc_virt rfl rfl rfl hq ⟨rfl, Nat.le_of_ble_eq_true rfl, rfl, Or.inl rfl⟩) rfl ⟨Nat.le_of_ble_eq_true rfl, Nat.le_of_ble_eq_true rfl, by decide⟩ (c_number hS r1 r2) (fun v h2 hv => ?_) (fun ce xq h2 he => Or.inr ⟨(fun z => by cases z), ?_⟩)
  · obtain ⟨⟨zv, rfl⟩, rfl⟩ := hv
    have ho2 := ho
    refine xT.last (k := 0) hM rfl ho2 (by omega) (by omega) (fun h3 e3 u3 => ?_)
    refine xT.s1 hM rfl rfl ?_
    refine xT.s1 hM rfl rfl ?_
    exact xT.ret hM rfl rfl rfl rfl (⟨_, rfl, _, _, rfl, w_P.out hS hsz hc17 (c_fr.rf _ _ _) ho2 u3 (Nat.le_refl _) (Nat.le_refl _) (by omega) (by omega)⟩)
  · rcases he with he | he
    · obtain ⟨rfl, hix, hP⟩ := w_P.thrown hW (by decide) he
      refine ⟨hix, 11, rfl, ?_⟩
      refine xT.s1 hM rfl rfl ?_
      refine xT.s1 hM rfl rfl ?_
      exact xT.ret hM rfl rfl rfl rfl (⟨_, rfl, _, _, rfl, hP⟩)
    · obtain ⟨rfl, hix, hP⟩ := w_P.thrown hW (by decide) he
      refine ⟨hix, 14, rfl, ?_⟩
      refine xT.s1 hM rfl rfl ?_
      refine xT.s1 hM rfl rfl ?_
      exact xT.ret hM rfl rfl rfl rfl (⟨_, rfl, _, _, rfl, hP⟩)
theorem w_same {c w : Int32} (hW : w_S h q0 qt qb ql qa qo gb len cap y0) (r1 : h.length + 1 ≤ e.2.2.2.1) (r2 : ab_sz h + 6 ≤ e.2.2.2.2.1) : xT e (d + 5) 8 0 [(0, .ref q0), (1, .int c), (2, .int w), (3, .ref qo)] [] h (fun o h' => ∃ v, o = .inl v ∧ ∃ (k : Int32) (y : Int64), v = some (.int k) ∧ w_P h q0 qt qb ql qa qo len cap 5 6 y h') := by
  have hM : (x_mt e.1)[8]? = some xM8 := rfl
  obtain ⟨⟨th, ta, qe, sz, kh, bh, eh, ka, ba, ea, hS, hsz⟩, hc17, fo, ho, ho1⟩ := id hW
  obtain ⟨⟨F0, hq, -⟩, ⟨Ft, gl, kp, hT⟩, -⟩ := id hS
  have nb : qo ≠ qb := x_neq ho hT.2.2.2.2.2.2.2.2.1 (by simp)
  have nl : qo ≠ ql := x_neq ho hT.2.2.2.2.2.2.2.2.2.1 (by simp)
  refine xT.s1 hM rfl rfl ?_
  refine xT.s1 hM rfl rfl ?_
  refine xT.s1 hM rfl rfl ?_
  refine xT.s1 hM rfl rfl ?_
  refine xT.s1 hM rfl rfl ?_
  refine xT.call hM rfl rfl rfl rfl rfl rfl (xc_virt rfl rfl rfl hq ⟨rfl, Nat.le_of_ble_eq_true rfl, rfl, Or.inl rfl⟩) rfl ⟨Nat.le_of_ble_eq_true rfl, Nat.le_of_ble_eq_true rfl, by decide⟩ (c_same hS r1 r2) (fun v h2 hv => ?_) (fun ce xq h2 he => Or.inr ⟨(fun z => by cases z), ?_⟩)
  · obtain ⟨⟨zv, rfl⟩, rfl⟩ := hv
    have ho2 := ho
    refine xT.s1 hM rfl rfl ?_
    refine xT.br (fun hb => ?_) (fun hb => ?_)
    · refine xT.s1 hM rfl rfl ?_
      refine xT.last (k := 0) hM rfl ho2 (by omega) (by omega) (fun h3 e3 u3 => ?_)
      refine xT.s1 hM rfl rfl ?_
      refine xT.s1 hM rfl rfl ?_
      exact xT.ret hM rfl rfl rfl rfl (⟨_, rfl, _, _, rfl, w_P.out hS hsz hc17 (c_fr.rf _ _ _) ho2 u3 (Nat.le_refl _) (Nat.le_refl _) (by omega) (by omega)⟩)
    · refine xT.s1 hM rfl rfl ?_
      refine xT.s1 hM rfl rfl ?_
      refine xT.last (k := 0) hM rfl ho2 (by omega) (by omega) (fun h3 e3 u3 => ?_)
      refine xT.s1 hM rfl rfl ?_
      refine xT.s1 hM rfl rfl ?_
      exact xT.ret hM rfl rfl rfl rfl (⟨_, rfl, _, _, rfl, w_P.out hS hsz hc17 (c_fr.rf _ _ _) ho2 u3 (Nat.le_refl _) (Nat.le_refl _) (by omega) (by omega)⟩)
  · rcases he with he | he
    · obtain ⟨rfl, hix, hP⟩ := w_P.thrown hW (by decide) he
      refine ⟨hix, 20, rfl, ?_⟩
      refine xT.s1 hM rfl rfl ?_
      refine xT.s1 hM rfl rfl ?_
      exact xT.ret hM rfl rfl rfl rfl (⟨_, rfl, _, _, rfl, hP⟩)
    · obtain ⟨rfl, hix, hP⟩ := w_P.thrown hW (by decide) he
      refine ⟨hix, 24, rfl, ?_⟩
      refine xT.s1 hM rfl rfl ?_
      refine xT.s1 hM rfl rfl ?_
      exact xT.ret hM rfl rfl rfl rfl (⟨_, rfl, _, _, rfl, hP⟩)
theorem w_part {c w : Int32} (hW : w_S h q0 qt qb ql qa qo gb len cap y0) (r1 : h.length + 1 ≤ e.2.2.2.1) (r2 : ab_sz h + 6 ≤ e.2.2.2.2.1) : xT e (d + 5) 5 0 [(0, .ref q0), (1, .int c), (2, .int w), (3, .ref qo)] [] h (fun o h' => ∃ v, o = .inl v ∧ ∃ (k : Int32) (y : Int64), v = some (.int k) ∧ w_P h q0 qt qb ql qa qo len cap 5 6 y h') := by
  have hM : (x_mt e.1)[5]? = some xM5 := rfl
  obtain ⟨⟨th, ta, qe, sz, kh, bh, eh, ka, ba, ea, hS, hsz⟩, hc17, fo, ho, ho1⟩ := id hW
  obtain ⟨⟨F0, hq, -⟩, ⟨Ft, gl, kp, hT⟩, -⟩ := id hS
  have nb : qo ≠ qb := x_neq ho hT.2.2.2.2.2.2.2.2.1 (by simp)
  have nl : qo ≠ ql := x_neq ho hT.2.2.2.2.2.2.2.2.2.1 (by simp)
  refine xT.s1 hM rfl rfl ?_
  refine xT.s1 hM rfl rfl ?_
  refine xT.s1 hM rfl rfl ?_
  refine xT.s1 hM rfl rfl ?_
  refine xT.s1 hM rfl rfl ?_
  refine xT.call hM rfl rfl rfl rfl rfl rfl (xc_virt rfl rfl rfl hq ⟨rfl, Nat.le_of_ble_eq_true rfl, rfl, Or.inl rfl⟩) rfl ⟨Nat.le_of_ble_eq_true rfl, Nat.le_of_ble_eq_true rfl, by decide⟩ (c_part hS r1 r2) (fun v h2 hv => ?_) (fun ce xq h2 he => Or.inr ⟨(fun z => by cases z), ?_⟩)
  · obtain ⟨⟨zv, rfl⟩, rfl⟩ := hv
    have ho2 := ho
    refine xT.s1 hM rfl rfl ?_
    refine xT.last (k := 0) hM rfl ho2 (by omega) (by omega) (fun h3 e3 u3 => ?_)
    refine xT.s1 hM rfl rfl ?_
    refine xT.s1 hM rfl rfl ?_
    exact xT.ret hM rfl rfl rfl rfl (⟨_, rfl, _, _, rfl, w_P.out hS hsz hc17 (c_fr.rf _ _ _) ho2 u3 (Nat.le_refl _) (Nat.le_refl _) (by omega) (by omega)⟩)
  · rcases he with he | he
    · obtain ⟨rfl, hix, hP⟩ := w_P.thrown hW (by decide) he
      refine ⟨hix, 13, rfl, ?_⟩
      refine xT.s1 hM rfl rfl ?_
      refine xT.s1 hM rfl rfl ?_
      exact xT.ret hM rfl rfl rfl rfl (⟨_, rfl, _, _, rfl, hP⟩)
    · obtain ⟨rfl, hix, hP⟩ := w_P.thrown hW (by decide) he
      refine ⟨hix, 17, rfl, ?_⟩
      refine xT.s1 hM rfl rfl ?_
      refine xT.s1 hM rfl rfl ?_
      exact xT.ret hM rfl rfl rfl rfl (⟨_, rfl, _, _, rfl, hP⟩)
theorem w_unit {c w : Int32} (hW : w_S h q0 qt qb ql qa qo gb len cap y0) (r1 : h.length + 1 ≤ e.2.2.2.1) (r2 : ab_sz h + 6 ≤ e.2.2.2.2.1) : xT e (d + 5) 7 0 [(0, .ref q0), (1, .int c), (2, .int w), (3, .ref qo)] [] h (fun o h' => ∃ v, o = .inl v ∧ ∃ (k : Int32) (y : Int64), v = some (.int k) ∧ w_P h q0 qt qb ql qa qo len cap 5 6 y h') := by
  have hM : (x_mt e.1)[7]? = some xM7 := rfl
  obtain ⟨⟨th, ta, qe, sz, kh, bh, eh, ka, ba, ea, hS, hsz⟩, hc17, fo, ho, ho1⟩ := id hW
  obtain ⟨⟨F0, hq, -⟩, ⟨Ft, gl, kp, hT⟩, -⟩ := id hS
  have nb : qo ≠ qb := x_neq ho hT.2.2.2.2.2.2.2.2.1 (by simp)
  have nl : qo ≠ ql := x_neq ho hT.2.2.2.2.2.2.2.2.2.1 (by simp)
  refine xT.s1 hM rfl rfl ?_
  refine xT.s1 hM rfl rfl ?_
  refine xT.s1 hM rfl rfl ?_
  refine xT.s1 hM rfl rfl ?_
  refine xT.s1 hM rfl rfl ?_
  refine xT.call hM rfl rfl rfl rfl rfl rfl (xc_virt rfl rfl rfl hq ⟨rfl, Nat.le_of_ble_eq_true rfl, rfl, Or.inl rfl⟩) rfl ⟨Nat.le_of_ble_eq_true rfl, Nat.le_of_ble_eq_true rfl, by decide⟩ (c_unit hS r1 r2) (fun v h2 hv => ?_) (fun ce xq h2 he => Or.inr ⟨(fun z => by cases z), ?_⟩)
  · obtain ⟨⟨zv, rfl⟩, rfl⟩ := hv
    have ho2 := ho
    refine xT.s1 hM rfl rfl ?_
    refine xT.last (k := 0) hM rfl ho2 (by omega) (by omega) (fun h3 e3 u3 => ?_)
    refine xT.s1 hM rfl rfl ?_
    refine xT.s1 hM rfl rfl ?_
    exact xT.ret hM rfl rfl rfl rfl (⟨_, rfl, _, _, rfl, w_P.out hS hsz hc17 (c_fr.rf _ _ _) ho2 u3 (Nat.le_refl _) (Nat.le_refl _) (by omega) (by omega)⟩)
  · rcases he with he | he
    · obtain ⟨rfl, hix, hP⟩ := w_P.thrown hW (by decide) he
      refine ⟨hix, 13, rfl, ?_⟩
      refine xT.s1 hM rfl rfl ?_
      refine xT.s1 hM rfl rfl ?_
      exact xT.ret hM rfl rfl rfl rfl (⟨_, rfl, _, _, rfl, hP⟩)
    · obtain ⟨rfl, hix, hP⟩ := w_P.thrown hW (by decide) he
      refine ⟨hix, 17, rfl, ?_⟩
      refine xT.s1 hM rfl rfl ?_
      refine xT.s1 hM rfl rfl ?_
      exact xT.ret hM rfl rfl rfl rfl (⟨_, rfl, _, _, rfl, hP⟩)
theorem w_feed {va vb vc vd ve : Int32} (hW : w_S h q0 qt qb ql qa qo gb len cap y0) (r1 : h.length + 1 ≤ e.2.2.2.1) (r2 : ab_sz h + 6 ≤ e.2.2.2.2.1) : xT e (d + 2) 1 0 [(0, .ref q0), (1, .int va), (2, .int vb), (3, .int vc), (4, .int vd), (5, .int ve), (6, .ref qo)] [] h (fun o h' => ∃ v, o = .inl v ∧ ∃ (k : Int32) (y : Int64) (len2 : Nat), v = some (.int k) ∧ w_P h q0 qt qb ql qa qo len2 cap 5 6 y h' ∧ ((¬ len ≤ 4076 ∧ k = 1 ∧ len2 = len) ∨ (len ≤ 4076 ∧ k = 0 ∧ len2 = len + 4 + 4 + 4 + 4 + 4 ∧ y = (nI (len + 4 + 4 + 4 + 4 + 4)).toInt64))) := by
  have hM : (x_mt e.1)[1]? = some xM1 := rfl
  obtain ⟨⟨th, ta, qe, sz, kh, bh, eh, ka, ba, ea, hS, hsz⟩, hc17, fo, ho, ho1⟩ := id hW
  obtain ⟨⟨F0, hq, -⟩, ⟨Ft, gl, kp, hT⟩, -⟩ := id hS
  have nb : qo ≠ qb := x_neq ho hT.2.2.2.2.2.2.2.2.1 (by simp)
  have nl : qo ≠ ql := x_neq ho hT.2.2.2.2.2.2.2.2.2.1 (by simp)
  refine xT.s1 hM rfl rfl ?_
  refine xT.s1 hM rfl rfl ?_
  refine xT.s1 hM rfl rfl ?_
  refine xT.s1 hM rfl rfl ?_
  refine xT.s1 hM rfl rfl ?_
  refine xT.s1 hM rfl rfl ?_
  refine xT.s1 hM rfl rfl ?_
  refine xT.s1 hM rfl rfl ?_
  refine xT.call hM rfl rfl rfl rfl rfl rfl (xc_virt rfl rfl rfl hq ⟨rfl, Nat.le_of_ble_eq_true rfl, rfl, Or.inl rfl⟩) rfl ⟨Nat.le_of_ble_eq_true rfl, Nat.le_of_ble_eq_true rfl, by decide⟩ (c_feed hS r1 r2) (fun v h2 hv => ?_) (fun ce xq h2 he => Or.inr ⟨(fun z => by cases z), ?_⟩)
  · obtain ⟨hle, rfl, gb2, hS2, fr2, hl2, hz2⟩ := hv
    have ho2 := fr2.o ho nb nl
    refine xT.s1 hM rfl rfl ?_
    refine xT.last (k := 0) hM rfl ho2 (by omega) (by omega) (fun h3 e3 u3 => ?_)
    refine xT.s1 hM rfl rfl ?_
    refine xT.s1 hM rfl rfl ?_
    exact xT.ret hM rfl rfl rfl rfl (⟨_, rfl, _, _, _, rfl, w_P.out hS2 hsz hc17 fr2 ho2 u3 (by omega) (Nat.le_refl _) (by omega) (by omega), Or.inr ⟨hle, rfl, rfl, rfl⟩⟩)
  · obtain ⟨hnl, he⟩ := he
    obtain ⟨rfl, hix, hP⟩ := w_P.thrown hW (by decide) he
    refine ⟨hix, 19, rfl, ?_⟩
    refine xT.s1 hM rfl rfl ?_
    refine xT.s1 hM rfl rfl ?_
    exact xT.ret hM rfl rfl rfl rfl (⟨_, rfl, _, _, _, rfl, hP, Or.inl ⟨hnl, rfl, rfl⟩⟩)
theorem w_end {c : Int32} (hW : w_S h q0 qt qb ql qa qo gb len cap y0) (r1 : h.length + 1 ≤ e.2.2.2.1) (r2 : ab_sz h + 6 ≤ e.2.2.2.2.1) : xT e (d + 1) 2 0 [(0, .ref q0), (1, .int c), (2, .ref qo)] [] h (fun o h' => ∃ v, o = .inl v ∧ ∃ (k : Int32) (y : Int64) (len2 : Nat), v = some (.int k) ∧ w_P h q0 qt qb ql qa qo len2 cap 5 6 y h' ∧ (((c < 0 ∨ nI len < c) ∧ k = 1 ∧ len2 = len) ∨ (¬ c < 0 ∧ ¬ nI len < c ∧ k = 0 ∧ c = nI len2 ∧ y = c.toInt64))) := by
  have hM : (x_mt e.1)[2]? = some xM2 := rfl
  obtain ⟨⟨th, ta, qe, sz, kh, bh, eh, ka, ba, ea, hS, hsz⟩, hc17, fo, ho, ho1⟩ := id hW
  obtain ⟨⟨F0, hq, -⟩, ⟨Ft, gl, kp, hT⟩, -⟩ := id hS
  have nb : qo ≠ qb := x_neq ho hT.2.2.2.2.2.2.2.2.1 (by simp)
  have nl : qo ≠ ql := x_neq ho hT.2.2.2.2.2.2.2.2.2.1 (by simp)
  refine xT.s1 hM rfl rfl ?_
  refine xT.s1 hM rfl rfl ?_
  refine xT.s1 hM rfl rfl ?_
  refine xT.s1 hM rfl rfl ?_
  refine xT.call hM rfl rfl rfl rfl rfl rfl (xc_virt rfl rfl rfl hq ⟨rfl, Nat.le_of_ble_eq_true rfl, rfl, Or.inl rfl⟩) rfl ⟨Nat.le_of_ble_eq_true rfl, Nat.le_of_ble_eq_true rfl, by decide⟩ (c_end hS r1 r2) (fun v h2 hv => ?_) (fun ce xq h2 he => Or.inr ⟨(fun z => by cases z), ?_⟩)
  · obtain ⟨hn1, hn2, rfl, j, hj, hS2, fr2, hl2, hz2⟩ := hv
    have ho2 := fr2.o ho nb nl
    refine xT.s1 hM rfl rfl ?_
    refine xT.last (k := 0) hM rfl ho2 (by omega) (by omega) (fun h3 e3 u3 => ?_)
    refine xT.s1 hM rfl rfl ?_
    refine xT.s1 hM rfl rfl ?_
    exact xT.ret hM rfl rfl rfl rfl (⟨_, rfl, _, _, _, rfl, w_P.out hS2 hsz hc17 fr2 ho2 u3 (by omega) (Nat.le_refl _) (by omega) (by omega), Or.inr ⟨hn1, hn2, rfl, hj, rfl⟩⟩)
  · obtain ⟨hnl, he⟩ := he
    obtain ⟨rfl, hix, hP⟩ := w_P.thrown hW (by decide) he
    refine ⟨hix, 12, rfl, ?_⟩
    refine xT.s1 hM rfl rfl ?_
    refine xT.s1 hM rfl rfl ?_
    exact xT.ret hM rfl rfl rfl rfl (⟨_, rfl, _, _, _, rfl, hP, Or.inl ⟨hnl, rfl, rfl⟩⟩)
theorem w_read (hE : e.1 = .null ∨ ∃ w, e.1 = .float w) (hW : w_S h q0 qt qb ql qa qo gb len cap y0) (r1 : 5 * h.length + 5 * len + (17010 - cap) + 100 ≤ 5 * e.2.2.2.1) (r2 : ab_sz h + 7 * len + 4 * (17010 - cap) + 20200 ≤ e.2.2.2.2.1) : xT e (d + 201) 3 0 [(0, .ref q0), (1, .ref qo)] [] h (fun o h' => ∃ v, o = .inl v ∧ ∃ (k : Int32) (y : Int64), v = some (.int k) ∧ w_P h q0 qt qb ql qa qo 0 cap (5 * len + 5) (7 * len + 6) y h') := by
  have hM : (x_mt e.1)[3]? = some xM3 := rfl
  obtain ⟨⟨th, ta, qe, sz, kh, bh, eh, ka, ba, ea, hS, hsz⟩, hc17, fo, ho, ho1⟩ := id hW
  obtain ⟨⟨F0, hq, -⟩, ⟨Ft, gl, kp, hT⟩, -⟩ := id hS
  have nb : qo ≠ qb := x_neq ho hT.2.2.2.2.2.2.2.2.1 (by simp)
  have nl : qo ≠ ql := x_neq ho hT.2.2.2.2.2.2.2.2.2.1 (by simp)
  refine xT.s1 hM rfl rfl ?_
  refine xT.s1 hM rfl rfl ?_
  refine xT.s1 hM rfl rfl ?_
  refine xT.call hM rfl rfl rfl rfl rfl rfl (xc_virt rfl rfl rfl hq ⟨rfl, Nat.le_of_ble_eq_true rfl, rfl, Or.inl rfl⟩) rfl ⟨Nat.le_of_ble_eq_true rfl, Nat.le_of_ble_eq_true rfl, by decide⟩ (c_read hE hS hc17 r1 r2) (fun v h2 hv => ?_) (fun ce xq h2 he => Or.inr ⟨(fun z => by cases z), ?_⟩)
  · obtain ⟨⟨zv, rfl⟩, th2, ta2, qe2, cap2, sz2, kh2, bh2, eh2, ka2, ba2, ea2, hS2, k1, k2, k3, k4, k5, fr2, k6⟩ := hv
    have ho2 := fr2.o ho nb nl
    refine xT.s1 hM rfl rfl ?_
    refine xT.last (k := 0) hM rfl ho2 (by omega) (by omega) (fun h3 e3 u3 => ?_)
    refine xT.s1 hM rfl rfl ?_
    refine xT.s1 hM rfl rfl ?_
    exact xT.ret hM rfl rfl rfl rfl (⟨_, rfl, _, _, rfl, w_P.out hS2 k3 k2 fr2 ho2 u3 k6 k1 k4 k5⟩)
  · obtain ⟨rfl, ⟨fs, hfs⟩, ⟨th2, ta2, qe2, cap2, kh2, bh2, eh2, ka2, ba2, ea2, hS2, k1, k2, k3, k4⟩, fr2, k5⟩ := he
    refine ⟨by unfold ab_isx; rw [hfs]; simp, 11, rfl, ?_⟩
    refine xT.s1 hM rfl rfl ?_
    refine xT.s1 hM rfl rfl ?_
    exact xT.ret hM rfl rfl rfl rfl (⟨_, rfl, _, _, rfl, gb, cap2, ⟨⟨th2, ta2, qe2, 0, kh2, bh2, eh2, ka2, ba2, ea2, hS2, by omega⟩, k2, fo, fr2.o ho nb nl, ho1⟩, fr2.w, k5, k1, k3, k4⟩)
end XWS
