/-! the reference: lay -/
theorem x_lv7 {q b : Nat} {k p c ar : Int32} {nm : Value} (hc : nm.category = 1) : lv_args 0 [.ref q, .int k, .int p, .int c, .ref b, nm, .int ar] = [(0, .ref q), (1, .int k), (2, .int p), (3, .int c), (4, .ref b), (5, nm), (6, .int ar)] := by
  simp [lv_args, hc, x_ci, x_cr]
theorem x_sl7 {q b : Nat} {k p c ar : Int32} {nm : Value} (hc : nm.category = 1) : (lg_sl [.ref q, .int k, .int p, .int c, .ref b, nm, .int ar]).length = 7 := by
  simp [lg_sl, hc, x_ci, x_cr]
theorem x_nmc {e : xE} {h : ab_H} {nm : Value} (hn : nm = .null ∨ ∃ n, j_str e h nm n) : nm.category = 1 := by
  rcases hn with z | ⟨n, z⟩
  · rw [z]; rfl
  · exact z.rv.cat
/-- a Value and its children, by their own names -/
def m_U (k : Nat) (e : xE) (h : ab_H) (l u b : Nat) (G : List Value) (qp qn ql c n : Nat) (pf nf : Nat → Value) (lf : Nat → Int32) (ss : Nat → Nat) : Prop := m_V1 e h l u b G qp qn ql c n pf nf lf ∧ ∀ i, i < c → ∃ bi li ui, pf i = .ref bi ∧ m_T k e h li ui bi (ss i) ∧ l ≤ li ∧ ui ≤ u
theorem m_U.kept {k : Nat} {e : xE} {h h' : ab_H} {l u b : Nat} {G : List Value} {qp qn ql c n : Nat} {pf nf : Nat → Value} {lf : Nat → Int32} {ss : Nat → Nat} (hk : m_kp h h' l u) (hU : m_U k e h l u b G qp qn ql c n pf nf lf ss) : m_U k e h' l u b G qp qn ql c n pf nf lf ss := by
  obtain ⟨⟨hV, ⟨kd, v1, v2, v2', tx, v3, v4, v5⟩, v6, v7, b1, b2, b3, b4⟩, ch⟩ := hU
  refine ⟨⟨hV.kept hk b1 b2 b3 b4 (fun i hi b hb => ?_), ⟨kd, v1, v2, v2', tx, v3, ?_, fun z => ?_⟩, v6, v7, b1, b2, b3, b4⟩, fun i hi => ?_⟩
  · obtain ⟨b', li, ui, z1, z2, z3, z4⟩ := ch i hi
    have := z2.root.1
    rw [z1] at hb
    cases hb
    omega
  · rcases v4 with z | ⟨m, z⟩
    · exact Or.inl z
    · exact Or.inr ⟨m, hk.str z⟩
  · obtain ⟨m, y⟩ := v5 z
    exact ⟨m, hk.str y⟩
  · obtain ⟨b', li, ui, z1, z2, z3, z4⟩ := ch i hi
    exact ⟨b', li, ui, z1, m_T.kept k li ui b' (ss i) (hk.sub z3 z4) z2, z3, z4⟩
/-- how lay ends -/
def m_LQ2 (e : xE) (h : ab_H) (q : Nat) (F : List Value) (nn cap : Nat) (R : Nat → Nat) (A : m_AT) (s : Nat) (ar : Int32) (v : Option Value) (h' : ab_H) : Prop := v = none ∧ ∃ (nn' : Nat) (F' : List Value) (cap' : Nat) (R' : Nat → Nat) (A' : m_AT), m_E h' q F' nn' cap' R' A' ∧ m_R h q F nn cap R A h' F' nn' cap' R' A' ∧ nn < nn' ∧ nn' ≤ nn + s ∧ (∀ i, i < nn' → m_nd e h' A' i) ∧ m_ab A' nn = ar ∧ ∀ i, nn ≤ i → i < nn' → m_ct A' nn' i
def m_LY (e : xE) (q k : Nat) : Prop := ∀ (d l u b s nn cap : Nat) (F : List Value) (R : Nat → Nat) (A : m_AT) (h : ab_H) (ar : Int32), m_T k e h l u b s → u ≤ h.length → m_E h q F nn cap R A → (∀ i, i < nn → m_nd e h A i) → (q < l ∨ u ≤ q) → (∀ j, j < 6 → R j < l ∨ u ≤ R j) → nn + s ≤ 8193 → cap ≤ 16384 → 64 * h.length + 6 * (16384 - cap) + 1000 ≤ 64 * e.2.2.2.1 → ab_sz h + 12 * (16384 - cap) ≤ e.2.2.2.2.1 → xT e (d + k + 1) 34 0 [(0, .ref q), (1, .ref b), (2, .int ar)] [] h (fun o h' => ∃ v, o = .inl v ∧ m_LQ2 e h q F nn cap R A s ar v h')
section XLA
variable {e : xE} {d q k l u b s n0 : Nat} {G : List Value} {qp qn ql c n kd : Nat} {pf nf : Nat → Value} {lf : Nat → Int32} {ss : Nat → Nat} {ar : Int32} {hs : ab_H} {Fs : List Value} {cs : Nat} {Rs : Nat → Nat} {As : m_AT}
theorem m_R.out {h h' : ab_H} {q : Nat} {F F' : List Value} {nn nn' cap cap' : Nat} {R R' : Nat → Nat} {A A' : m_AT} (x : m_R h q F nn cap R A h' F' nn' cap' R' A') {l u : Nat} (hu : u ≤ h.length) (hR : ∀ j, j < 6 → R j < l ∨ u ≤ R j) : ∀ j, j < 6 → R' j < l ∨ u ≤ R' j := fun j hj => by
  rcases x.2.2.2.2.1 with z | z
  · rw [z j hj]; exact hR j hj
  · have := z j hj; exact Or.inr (by omega)
theorem m_sum_le {ss : Nat → Nat} {i c : Nat} (h : i < c) : m_sum ss i + (1 + ss i) ≤ m_sum ss c := by
  have go : ∀ k, m_sum ss (i + 1) ≤ m_sum ss (i + 1 + k) := by
    intro k
    induction k with
    | zero => exact Nat.le_refl _
    | succ k ih => show _ ≤ m_sum ss (i + 1 + k) + _; omega
  have := go (c - (i + 1))
  rw [show i + 1 + (c - (i + 1)) = c from by omega] at this
  exact this
theorem m_layLoop (HL : m_LY e q k) (hq : q < l ∨ u ≤ q) (hG : G[0]? = some (.int (nI kd))) (hkd : ∀ x, some (Value.int (nI kd)) = some (Value.int (nI x)) → x ≤ 12 → x = kd) (hsz : 1 + m_sum ss c ≤ s) (hs8 : n0 + s ≤ 8193) (hu0 : u ≤ hs.length) : ∀ (m i nn cap : Nat) (F : List Value) (R : Nat → Nat) (A : m_AT) (h : ab_H), c - i < m → i ≤ c → m_U k e h l u b G qp qn ql c n pf nf lf ss → u ≤ h.length → m_E h q F nn cap R A → (∀ i, i < nn → m_nd e h A i) → (∀ j, j < 6 → R j < l ∨ u ≤ R j) → m_R hs q Fs n0 cs Rs As h F nn cap R A → n0 < nn → m_cb A n0 = nI c → i ≤ m_cnt (m_ab A) n0 nn → (∀ j, n0 < j → j < nn → m_ct A nn j) → m_ab A n0 = ar → nn ≤ n0 + 1 + m_sum ss i → cap ≤ 16384 → 64 * h.length + 6 * (16384 - cap) + 1000 ≤ 64 * e.2.2.2.1 → ab_sz h + 12 * (16384 - cap) ≤ e.2.2.2.2.1 → xT e (d + k + 2) 34 214 [(8, .int (nI i)), (7, .int (nI n0)), (0, .ref q), (1, .ref b), (2, .int ar)] [] h (fun o h' => ∃ v, o = .inl v ∧ m_LQ2 e hs q Fs n0 cs Rs As s ar v h') := by
  have hM : (x_mt e.1)[34]? = some xM34 := rfl
  intro m
  induction m with
  | zero => intro i nn cap F R A h m1; omega
  | succ m ih =>
    intro i nn cap F R A h m1 m2 hU hu hE hnd hR hRR hn0 hcb hcn hct hab hnn hcap r1 r2
    obtain ⟨⟨⟨ha, la, ⟨g5, g6, g7, g8⟩, ⟨hp, hn, hl⟩, ⟨c1, c2⟩, chv, cn⟩, ⟨kdx, g0, kd12, k8, tx, g4, tx1, tx2⟩, ⟨px, g1⟩, ⟨zx, g3⟩, b1, b2, b3, b4⟩, ch⟩ := id hU
    have ekd : kdx = kd := hkd _ (hG.symm.trans g0) kd12
    subst ekd
    refine xT.s1 hM rfl rfl ?_
    refine xT.s1 hM rfl rfl ?_
    refine xT.s2 hM rfl rfl (x2_get rfl (Or.inr rfl) ha g8) ?_
    refine xT.s1 hM rfl rfl ?_
    refine xT.br (fun hb0 => ?_) (fun hb0 => ?_)
    · have ei : i = c := Nat.le_antisymm m2 ((nI_leI (by omega) (by omega)).mp hb0)
      subst ei
      exact xT.ret hM rfl rfl rfl rfl ⟨_, rfl, rfl, nn, F, cap, R, A, hE, hRR, hn0, by omega, hnd, hab, fun j j1 j2 => by
        by_cases hj : j = n0
        · subst hj; exact ⟨i, hcb, hcn, by omega⟩
        · exact hct j (by omega) j2⟩
    · have hic : i < c := Nat.lt_of_not_le (fun z => hb0 (nI_le z (by omega)))
      obtain ⟨bi, li, ui, x1, x2, x3, x4⟩ := ch i hic
      have hsum : m_sum ss i + (1 + ss i) ≤ m_sum ss c := m_sum_le hic
      have sub : ∀ (inn nn1 cap1 : Nat) (F1 : List Value) (R1 : Nat → Nat) (A1 : m_AT) (h1 : ab_H), m_R h q F nn cap R A h1 F1 nn1 cap1 R1 A1 → m_E h1 q F1 nn1 cap1 R1 A1 → (∀ i, i < nn1 → m_nd e h1 A1 i) → nn1 ≤ nn + 1 → (∀ (nn2 cap2 : Nat) (F2 : List Value) (R2 : Nat → Nat) (A2 : m_AT) (h2 : ab_H), m_R h1 q F1 nn1 cap1 R1 A1 h2 F2 nn2 cap2 R2 A2 → m_ab A2 nn1 = nI inn → nn1 < nn2 → (∀ j, nn1 ≤ j → j < nn2 → m_ct A2 nn2 j) → i + 1 ≤ m_cnt (m_ab A2) n0 nn2 ∧ ∀ j, n0 < j → j < nn2 → m_ct A2 nn2 j) → xT e (d + k + 2) 34 261 [(9, .int (nI inn)), (8, .int (nI i)), (7, .int (nI n0)), (0, .ref q), (1, .ref b), (2, .int ar)] [] h1 (fun o h' => ∃ v, o = .inl v ∧ m_LQ2 e hs q Fs n0 cs Rs As s ar v h') := by
        intro inn nn1 cap1 F1 R1 A1 h1 hR1 hE1 hnd1 hn1 hcnt
        have hn1' := hR1.1
        have kp1 := hR1.kp hE hq hR
        have hU1 := hU.kept kp1
        have ha := kp1.1 _ _ ha b1.1 b1.2
        have hp := kp1.1 _ _ hp b2.1 b2.2
        have x2 := m_T.kept _ _ _ _ _ (kp1.sub x3 x4) x2
        have hl1 := hR1.2.2.2.2.2.1
        have y7 := hR1.2.2.2.2.2.2.1
        have y8 := hR1.2.2.2.2.2.2.2.1
        have y9 := hR1.2.2.2.2.2.2.2.2.1
        have y10 := hR1.2.2.2.2.2.2.2.2.2
        have hRo := hR1.out hu hR
        refine xT.s1 hM rfl rfl ?_
        refine xT.s1 hM rfl rfl ?_
        refine xT.s2 hM rfl rfl (x2_get rfl (Or.inr rfl) ha g5) ?_
        refine xT.s1 hM rfl rfl ?_
        refine xT.aald hM rfl hp rfl (by omega) (by omega) ?_
        rw [x1]
        refine xT.s1 hM rfl rfl ?_
        have hrec := HL d li ui bi (ss i) nn1 cap1 F1 R1 A1 h1 (nI inn) x2 (by omega) hE1 hnd1 (by omega) (fun j hj => by have := hRo j hj; omega) (by omega) y10 (by omega) (by omega)
        refine xT.go hM rfl rfl rfl rfl rfl rfl (xc_virt rfl rfl rfl hE1.1.1 ⟨rfl, Nat.le_of_ble_eq_true rfl, rfl, Or.inl rfl⟩) rfl ⟨Nat.le_of_ble_eq_true rfl, Nat.le_of_ble_eq_true rfl, by decide⟩ (hrec) (fun v h2 hv => ?_)
        obtain ⟨rfl, nn2, F2, cap2, R2, A2, hE2, hR2, w1, w2, hnd2, hab2, hct2⟩ := hv
        have hcc := hcnt nn2 cap2 F2 R2 A2 h2 hR2 hab2 w1 hct2
        have kp2 := hR2.kp hE1 hq hRo
        have hU2 := hU1.kept kp2
        have hR12 := hR1.tr hR2
        have t7 := hR2.2.2.2.2.2.2.1
        have t8 := hR2.2.2.2.2.2.2.2.1
        have t9 := hR2.2.2.2.2.2.2.2.2.1
        have t10 := hR2.2.2.2.2.2.2.2.2.2
        have t6 := hR2.2.2.2.2.2.1
        have a0 := hR12.2.1 n0 hn0
        refine xT.s1 hM rfl rfl ?_
        rw [show nI i + Int32.ofInt 1 = nI (i + 1) from nI_add i 1]
        refine xT.s1 hM rfl rfl ?_
        refine xT.weak (L := [(8, .int (nI (i + 1))), (7, .int (nI n0)), (0, .ref q), (1, .ref b), (2, .int ar)]) ⟨by simp [ab_put1, x_ci, x_cr, x_cf, x_cn, x_cl2], by simp [ab_put1, x_ci, x_cr, x_cf, x_cn, x_cl2]⟩ (ih (i + 1) nn2 cap2 F2 R2 A2 h2 (by omega) (by omega) hU2 (by omega) hE2 hnd2 (hR2.out (by omega) hRo) (hRR.tr hR12) (by omega) (a0.2.2.1.trans hcb) hcc.1 hcc.2 (a0.2.2.2.1.trans hab) (by show nn2 ≤ n0 + 1 + (m_sum ss i + (1 + ss i)); omega) t10 (by omega) (by omega))
      refine xT.s1 hM rfl rfl ?_
      refine xT.s1 hM rfl rfl ?_
      refine xT.s1 hM rfl rfl ?_
      refine xT.s2 hM rfl rfl (x2_get rfl (Or.inr rfl) ha g0) ?_
      refine xT.s1 hM rfl rfl ?_
      refine xT.s1 hM rfl rfl ?_
      refine xT.br (fun b11 => ?_) (fun b11 => ?_)
      · refine xT.s1 hM rfl rfl ?_
        refine xT.s1 hM rfl rfl ?_
        refine xT.s1 hM rfl rfl ?_
        refine xT.s2 hM rfl rfl (x2_get rfl (Or.inr rfl) ha g7) ?_
        refine xT.s1 hM rfl rfl ?_
        refine xT.iald hM rfl hl (by omega) (by omega) ?_
        refine xT.s1 hM rfl rfl ?_
        refine xT.s1 hM rfl rfl ?_
        refine xT.s1 hM rfl rfl ?_
        refine xT.s2 hM rfl rfl (x2_get rfl (Or.inr rfl) ha g6) ?_
        refine xT.s1 hM rfl rfl ?_
        refine xT.aald hM rfl hn rfl (by omega) (by omega) ?_
        have hnm := cn i hic
        refine xT.s1 hM rfl rfl ?_
        refine xT.go hM rfl rfl rfl rfl rfl rfl (xc_virt rfl rfl rfl hE.1.1 ⟨rfl, Nat.le_of_ble_eq_true rfl, rfl, Or.inl rfl⟩) rfl ⟨Nat.le_of_ble_eq_true rfl, by show (lg_sl [_, _, _, _, _, nf i, _]).length ≤ _; rw [x_sl7 (x_nmc hnm)]; decide, by decide⟩ (xT.cast (x_lv7 (x_nmc hnm)) (m_nodeE hE hnd ha hnm (by omega) hcap r1 r2)) (fun v h1 hv => ?_)
        obtain ⟨rfl, F1, cap1, R1, A1, hE1, hR1, w1, w2, w3, w4, w5⟩ := hv
        have hnd1 : ∀ j, j < nn + 1 → m_nd e h1 A1 j := fun j hj => by
          by_cases hjn : j = nn
          · subst hjn
            refine ⟨⟨b, G, zx, tx, w1, hR1.obj hE ha, g3, g4, fun z => ?_⟩, ?_⟩
            · rw [w2] at z; exact absurd z (by decide)
            · rw [w5]
              rcases hnm with z | ⟨m, z⟩
              · exact Or.inl z
              · exact Or.inr ⟨m, hR1.str hE z⟩
          · exact hR1.nd hE (by omega) (hnd j (by omega))
        refine xT.s1 hM rfl rfl ?_
        refine xT.weak (L := [(9, .int (nI nn)), (8, .int (nI i)), (7, .int (nI n0)), (0, .ref q), (1, .ref b), (2, .int ar)]) ⟨by simp [ab_put1, x_ci, x_cr, x_cf, x_cn, x_cl2], by simp [ab_put1, x_ci, x_cr, x_cf, x_cn, x_cl2]⟩ (sub nn (nn + 1) cap1 F1 R1 A1 h1 hR1 hE1 hnd1 (by omega) (fun nn2 cap2 F2 R2 A2 h2 hR2 v1 v2 v3 => ?_))
        have cA : i + 1 ≤ m_cnt (m_ab A1) n0 (nn + 1) := by
          have e1 : m_cnt (m_ab A1) n0 nn = m_cnt (m_ab A) n0 nn := m_cnt_congr nn (fun j hj => (hR1.2.1 j hj).2.2.2.1)
          have := m_cnt_in (ab := m_ab A1) (i := n0) (j := nn) (n := nn + 1) hn0 (by omega) w4
          omega
        have cB : m_cnt (m_ab A2) n0 (nn + 1) = m_cnt (m_ab A1) n0 (nn + 1) := m_cnt_congr _ (fun j hj => (hR2.2.1 j hj).2.2.2.1)
        have cC := m_cnt_le (ab := m_ab A2) (i := n0) (show nn + 1 ≤ nn2 from by omega)
        refine ⟨by omega, fun j j1 j2 => ?_⟩
        by_cases hj1 : j < nn
        · exact (hR1.tr hR2).ct hj1 (hct j j1 hj1)
        · by_cases hj2 : j = nn
          · subst hj2
            refine ⟨1, (hR2.2.1 j (by omega)).2.2.1.trans (w3.trans (by decide)), ?_, by omega⟩
            have := m_cnt_in (ab := m_ab A2) (i := j) (j := j + 1) (n := nn2) (by omega) (by omega) v1
            omega
          · exact v3 j (by omega) j2
      · refine xT.weak (L := [(9, .int (nI n0)), (8, .int (nI i)), (7, .int (nI n0)), (0, .ref q), (1, .ref b), (2, .int ar)]) ⟨by simp [ab_put1, x_ci, x_cr, x_cf, x_cn, x_cl2], by simp [ab_put1, x_ci, x_cr, x_cf, x_cn, x_cl2]⟩ (sub n0 nn cap F R A h ⟨Nat.le_refl _, fun _ _ => ⟨rfl, rfl, rfl, rfl, rfl⟩, fun _ _ => rfl, fun k x hk _ _ _ _ _ _ _ => hk, Or.inl (fun _ _ => rfl), Nat.le_refl _, Nat.le_refl _, Nat.le_refl _, Nat.le_refl _, hcap⟩ hE hnd (by omega) (fun nn2 cap2 F2 R2 A2 h2 hR2 v1 v2 v3 => ?_))
        have cB : m_cnt (m_ab A2) n0 nn = m_cnt (m_ab A) n0 nn := m_cnt_congr _ (fun j hj => (hR2.2.1 j hj).2.2.2.1)
        have cC := m_cnt_in (ab := m_ab A2) (i := n0) (j := nn) (n := nn2) hn0 v2 v1
        refine ⟨by omega, fun j j1 j2 => ?_⟩
        by_cases hj1 : j < nn
        · exact hR2.ct hj1 (hct j j1 hj1)
        · exact v3 j (by omega) j2
end XLA
