/-! the reference: value -/
theorem m_N.ext {h h2 : ab_H} {q c z : Nat} {F : List Value} (x : ∀ (k : Nat) (x : ab_E), h[k]? = some x → h2[k]? = some x) (hc : 8 * h2.length ≤ 8 * h.length + c) (hl : h.length ≤ h2.length) (hz : ab_sz h2 ≤ ab_sz h + z) : m_N h q F c z h2 F := ⟨fun _ _ => rfl, fun k y hk _ => x k y hk, hc, hl, hz⟩
theorem m_V.put {e : xE} {h h' : ab_H} {a qp qn ql c n b : Nat} {G G' : List Value} {pf nf : Nat → Value} {lf : Nat → Int32} (hV : m_V e h a G qp qn ql c n pf nf lf) (u : x_up h a h' (.inr (11, G'))) (hl : G'.length = G.length) (fo : ∀ i, i ≠ b → G'[i]? = G[i]?) (hb : b < 5) : m_V e h' a G' qp qn ql c n pf nf lf := by
  obtain ⟨ha, la, ⟨g5, g6, g7, g8⟩, ⟨hp, hn, hl'⟩, cs, ch, cn⟩ := hV
  have fr : ∀ (k : Nat) (x : ab_E), h[k]? = some x → k ≠ a → h'[k]? = some x := fun k x hk hne => (u.2.1 k hne).trans hk
  refine ⟨u.1, hl.trans la, ⟨(fo 5 (by omega)).trans g5, (fo 6 (by omega)).trans g6, (fo 7 (by omega)).trans g7, (fo 8 (by omega)).trans g8⟩, ⟨fr _ _ hp (x_neq hp ha (by simp)), fr _ _ hn (x_neq hn ha (by simp)), fr _ _ hl' (x_neq hl' ha (by simp))⟩, cs, fun i hi => ?_, fun i hi => ?_⟩
  · obtain ⟨bi, Fi, z1, z2⟩ := ch i hi
    by_cases hba : bi = a
    · subst hba; exact ⟨bi, _, z1, u.1⟩
    · exact ⟨bi, Fi, z1, fr _ _ z2 hba⟩
  · rcases cn i hi with z | ⟨m, z⟩
    · exact Or.inl z
    · exact Or.inr ⟨m, z.kept fr ha (by decide)⟩
section XVV
variable {e : xE} {d q q8 tp fr a o N : Nat} {gb : Nat → Int32} {h : ab_H} {F : List Value} {t : Int32} {w : Value}
theorem m_valA (hE : e.1 = .null ∨ ∃ w, e.1 = .float w) (hc : m_ws e) (hP : m_P e h q q8 gb F tp fr a t w (nI o)) (hr : m_rm e h gb tp fr a t) (ho : o ≤ 60) (ht : t = 2 ∨ t = 9) : xT e (d + 2 * (60 - o) + 14) 30 32 [(1, .int (nI fr)), (0, .ref q)] [] h (x_Q (m_VN e h q q8 gb F tp fr a t o) (m_VE e h q q8 gb F tp fr a t)) := by
  have hM : (x_mt e.1)[30]? = some xM30 := rfl
  have hx := hr.x hP
  have hrx : x_rm e h := ⟨by have := hx.1; omega, by have := hx.2; omega⟩
  have hql := x_lt hP.cell
  have hfr := hP.frl
  have hps := hP.ps
  have hres := m_res_le hP
  have ht0 : t ≠ 0 ∧ t ≠ 1 := by rcases ht with z | z <;> (rw [z]; decide)
  refine xT.new hM rfl rfl rfl (by omega) (by show ab_sz _ + 9 ≤ _; omega) (fun n1 en w1 => ?_)
  have l1 := w1.2.2.1
  have s1 : ab_sz n1 = ab_sz h + 9 := w1.2.2.2
  have hPn := hP.ext w1.2.1
  have fin : ∀ k, k ≤ 2 → xT e (d + 2 * (60 - o) + 14) 30 63 [(1, .int (nI fr)), (0, .ref q)] [.int (nI k), .ref h.length, .ref h.length] n1 (x_Q (m_VN e h q q8 gb F tp fr a t o) (m_VE e h q q8 gb F tp fr a t)) := by
    intro k hk2
    refine xT.s1 hM rfl rfl ?_
    refine xT.go hM rfl rfl rfl rfl rfl rfl (xc_init rfl rfl rfl ⟨rfl, Nat.le_of_ble_eq_true rfl, rfl, rfl, rfl⟩) rfl ⟨Nat.le_of_ble_eq_true rfl, Nat.le_of_ble_eq_true rfl, by decide⟩ (m_vinit w1.1 (by omega) (by omega)) (fun v n2 hv => ?_)
    obtain ⟨rfl, G, hV, g0, g1, g4, g3, fr2, l2, s2⟩ := hv
    have ext2 : ∀ (k : Nat) (x : ab_E), h[k]? = some x → n2[k]? = some x := fun k x hk => fr2 k x (w1.2.1 _ _ hk) (by have := x_lt hk; omega)
    have hP2 := hP.ext ext2
    have hN2 : m_N h q F 32 15 n2 F := m_N.ext ext2 (by omega) (by omega) (by omega)
    refine xT.s1 hM rfl rfl ?_
    refine xT.s1 hM rfl rfl ?_
    refine xT.go hM rfl rfl rfl rfl rfl rfl (xc_virt rfl rfl rfl hP2.cell ⟨rfl, Nat.le_of_ble_eq_true rfl, rfl, Or.inl rfl⟩) rfl ⟨Nat.le_of_ble_eq_true rfl, Nat.le_of_ble_eq_true rfl, by decide⟩ (m_adv hE hP2 ⟨by have := hx.1; omega, by have := hx.2; omega⟩) (fun v n3 hv => ?_)
    obtain ⟨rfl, fr3, a3, F3, t3, w3, hP3, hN3, q1, q2, q3⟩ := hv
    refine xT.s1 hM rfl rfl ?_
    have hT2 : m_T (60 - o + 1) e n2 h.length n2.length h.length 1 := m_T.leaf ⟨hV, ⟨k, g0, by omega, fun z => by omega, .null, g4, Or.inl rfl, fun z => by omega⟩, ⟨_, g1⟩, ⟨_, g3⟩, ⟨by omega, by omega⟩, ⟨by omega, by omega⟩, ⟨by omega, by omega⟩, ⟨by omega, by omega⟩⟩
    have hT3 := (m_T.kept _ _ _ _ _ (m_kp.fr hN3.2.1 hP2.cell (Or.inl hql)) hT2).wid (Nat.le_refl _) hN3.2.2.2.1
    exact xT.ret hM rfl rfl rfl rfl (⟨h.length, 1, fr3, a3, F3, t3, w3, _, _, rfl, hP3, hT3, q3 ht0.1 ht0.2, by have := q3 ht0.1 ht0.2; omega, by omega, hN2.tr hN3 (Nat.le_refl _) (Nat.le_refl _), by have := q3 ht0.1 ht0.2; omega, by have := q3 ht0.1 ht0.2; omega⟩)
  refine xT.s1 hM rfl rfl ?_
  refine xT.s1 hM rfl rfl ?_
  refine xT.s2 hM rfl rfl rfl ?_
  refine xT.go hM rfl rfl rfl rfl rfl rfl (xc_virt rfl rfl rfl hPn.cell ⟨rfl, Nat.le_of_ble_eq_true rfl, rfl, Or.inl rfl⟩) rfl ⟨Nat.le_of_ble_eq_true rfl, Nat.le_of_ble_eq_true rfl, by decide⟩ (m_is hPn (hc _ (by simp))) (fun v n2 hv => ?_)
  obtain ⟨b, rfl, hb1, hb2, hh2⟩ := hv
  subst n2
  refine xT.s1 hM rfl rfl ?_
  refine xT.br (fun b0 => ?_) (fun b0 => ?_)
  · refine xT.s1 hM rfl rfl ?_
    refine xT.s2 hM rfl rfl rfl ?_
    refine xT.go hM rfl rfl rfl rfl rfl rfl (xc_virt rfl rfl rfl hPn.cell ⟨rfl, Nat.le_of_ble_eq_true rfl, rfl, Or.inl rfl⟩) rfl ⟨Nat.le_of_ble_eq_true rfl, Nat.le_of_ble_eq_true rfl, by decide⟩ (m_is hPn (hc _ (by simp))) (fun v n2 hv => ?_)
    obtain ⟨b, rfl, hb3, hb4, hh2⟩ := hv
    subst n2
    refine xT.s1 hM rfl rfl ?_
    refine xT.br (fun bb => ?_) (fun bb => ?_)
    · refine xT.s1 hM rfl rfl ?_
      exact fin 2 (by omega)
    · refine xT.s1 hM rfl rfl ?_
      refine xT.s1 hM rfl rfl ?_
      exact fin 1 (by omega)
  · refine xT.s1 hM rfl rfl ?_
    refine xT.s1 hM rfl rfl ?_
    exact fin 0 (by omega)
theorem m_valB (hE : e.1 = .null ∨ ∃ w, e.1 = .float w) (hc : m_ws e) (hP : m_P e h q q8 gb F tp fr a t w (nI o)) (hr : m_rm e h gb tp fr a t) (ho : o ≤ 60) (ht : t = 5 ∨ t = 2 ∨ t = 9) : xT e (d + 2 * (60 - o) + 14) 30 91 [(1, .int (nI fr)), (0, .ref q)] [] h (x_Q (m_VN e h q q8 gb F tp fr a t o) (m_VE e h q q8 gb F tp fr a t)) := by
  have hM : (x_mt e.1)[30]? = some xM30 := rfl
  have hx := hr.x hP
  have hrx : x_rm e h := ⟨by have := hx.1; omega, by have := hx.2; omega⟩
  have hql := x_lt hP.cell
  have hfr := hP.frl
  have hps := hP.ps
  have hres := m_res_le hP
  have ht0 : t ≠ 0 ∧ t ≠ 1 := by rcases ht with z | z | z <;> (rw [z]; decide)
  have hft : fr < tp := by
    rcases hP.2.2.2.2.1 with z | z
    · exact absurd z.1 ht0.1
    · exact z.2.1
  refine xT.new hM rfl rfl rfl (by omega) (by show ab_sz _ + 9 ≤ _; omega) (fun n1 en w1 => ?_)
  have l1 := w1.2.2.1
  have s1 : ab_sz n1 = ab_sz h + 9 := w1.2.2.2
  have hPn := hP.ext w1.2.1
  refine xT.s1 hM rfl rfl ?_
  refine xT.s1 hM rfl rfl ?_
  refine xT.s1 hM rfl rfl ?_
  refine xT.go hM rfl rfl rfl rfl rfl rfl (xc_init rfl rfl rfl ⟨rfl, Nat.le_of_ble_eq_true rfl, rfl, rfl, rfl⟩) rfl ⟨Nat.le_of_ble_eq_true rfl, Nat.le_of_ble_eq_true rfl, by decide⟩ (m_vinit w1.1 (by omega) (by omega)) (fun v n2 hv => ?_)
  obtain ⟨rfl, G, hV, g0, g1, g4, g3, fr2, l2, s2⟩ := hv
  have ext2 : ∀ (k : Nat) (x : ab_E), h[k]? = some x → n2[k]? = some x := fun k x hk => fr2 k x (w1.2.1 _ _ hk) (by have := x_lt hk; omega)
  have hP2 := hP.ext ext2
  have hN2 : m_N h q F 32 15 n2 F := m_N.ext ext2 (by omega) (by omega) (by omega)
  refine xT.s1 hM rfl rfl ?_
  refine xT.s1 hM rfl rfl ?_
  refine xT.s1 hM rfl rfl ?_
  refine xT.ca hM rfl rfl rfl rfl rfl rfl (xc_virt rfl rfl rfl hP2.cell ⟨rfl, Nat.le_of_ble_eq_true rfl, rfl, Or.inl rfl⟩) rfl ⟨Nat.le_of_ble_eq_true rfl, Nat.le_of_ble_eq_true rfl, by decide⟩ rfl (m_whole hE hP2 ⟨by have := hx.1; omega, by have := hx.2; omega⟩ ⟨by have := hr.1; omega, by have := hr.2; omega⟩ hc) (fun v n3 hv => ?_) (fun ce xq h2 he => by
      obtain ⟨c, k1, k2⟩ := he
      exact ⟨_, _, k1.pre hN2 (Nat.le_refl _) (Nat.le_refl _), by rcases k2 with z | z <;> omega, by rcases k2 with z | z <;> omega⟩)
  obtain ⟨⟨nn, rfl⟩, fr3, a3, F3, t3, w3, c, hP3, hN3, q1, q2, q3⟩ := hv
  have kp := m_kp.fr hN3.2.1 hP2.cell (l := h.length) (u := n2.length) (Or.inl hql)
  have hVx := hV.kept kp ⟨by omega, by omega⟩ ⟨by omega, by omega⟩ ⟨by omega, by omega⟩ ⟨by omega, by omega⟩ (fun i hi => absurd hi (Nat.not_lt_zero i))
  refine xT.put hM rfl rfl hVx.1 (Or.inr rfl) (by rw [hVx.2.1]; decide) (rfl) (Or.inl rfl) (fun p_1 G_1 eF eh up fb fo fl => ?_)
  have hV4 := hVx.put up fl fo (by decide)
  have hP4 := hP3.oth (fun k x hk hn => (up.2.1 k hn).trans hk) hVx.1 (by decide) (by decide)
  have l4 := up.2.2.1
  have s4 := up.2.2.2
  have l3 := hN3.2.2.2.1
  refine xT.s1 hM rfl rfl ?_
  have hT4 : m_T (60 - o + 1) e p_1 h.length p_1.length h.length 1 := m_T.leaf ⟨hV4, ⟨3, (fo 0 (by decide)).trans g0, by omega, fun z => by omega, .null, (fo 4 (by decide)).trans g4, Or.inl rfl, fun z => by omega⟩, ⟨_, (fo 1 (by decide)).trans g1⟩, ⟨_, fb⟩, ⟨by omega, by omega⟩, ⟨by omega, by omega⟩, ⟨by omega, by omega⟩, ⟨by omega, by omega⟩⟩
  have nq : ∀ (k : Nat) (x : ab_E), h[k]? = some x → k ≠ q → p_1[k]? = some x := fun k x hk hn => (up.2.1 k (by have := x_lt hk; omega)).trans (hN3.2.1 k x (ext2 k x hk) hn)
  exact xT.ret hM rfl rfl rfl rfl (⟨h.length, 1, fr3, a3, F3, t3, w3, _, _, rfl, hP4, hT4, q2, by omega, by omega, ⟨fun i hi => hN3.1 i hi, nq, by have := hN3.2.2.1; omega, by omega, by have := hN3.2.2.2.2; omega⟩, (by omega : 33 * c + 32 + _ + 24 ≤ _), (by omega : 29 * c + 15 + _ + 12 ≤ _)⟩)
theorem m_valC (hE : e.1 = .null ∨ ∃ w, e.1 = .float w) (hc : m_ws e) (hP : m_P e h q q8 gb F tp fr a t w (nI o)) (hr : m_rm e h gb tp fr a t) (ho : o ≤ 60) (ht : t = 7 ∨ t = 8 ∨ t = 6) : xT e (d + 2 * (60 - o) + 14) 30 138 [(1, .int (nI fr)), (0, .ref q)] [] h (x_Q (m_VN e h q q8 gb F tp fr a t o) (m_VE e h q q8 gb F tp fr a t)) := by
  have hM : (x_mt e.1)[30]? = some xM30 := rfl
  have hx := hr.x hP
  have hrx : x_rm e h := ⟨by have := hx.1; omega, by have := hx.2; omega⟩
  have hql := x_lt hP.cell
  have hfr := hP.frl
  have hps := hP.ps
  have hres := m_res_le hP
  have ht0 : t ≠ 0 ∧ t ≠ 1 := by rcases ht with z | z | z <;> (rw [z]; decide)
  obtain ⟨⟨⟨hq, hl, f1, f2, f6, f7, ⟨z8, f8⟩, ⟨n9, f9⟩, f10, f11, h8, htp⟩, rest, fr0⟩, hk, hC, p1, p2, p4⟩ := id hP
  obtain ⟨ns, hw⟩ : ∃ n, j_str e h w n := by
    rcases hk.1 with z | z
    · rcases ht with y | y | y <;> (rw [y] at z; exact absurd z (by decide))
    · exact z.2
  refine xT.new hM rfl rfl rfl (by omega) (by show ab_sz _ + 9 ≤ _; omega) (fun n1 en w1 => ?_)
  have l1 := w1.2.2.1
  have s1 : ab_sz n1 = ab_sz h + 9 := w1.2.2.2
  have hPn := hP.ext w1.2.1
  replace hq := w1.2.1 _ _ hq
  have fin : ∀ k, (k = 5 ∨ k = 6 ∨ k = 7) → xT e (d + 2 * (60 - o) + 14) 30 171 [(1, .int (nI fr)), (0, .ref q)] [.int (nI k), .ref h.length, .ref h.length] n1 (x_Q (m_VN e h q q8 gb F tp fr a t o) (m_VE e h q q8 gb F tp fr a t)) := by
    intro k hk3
    refine xT.s1 hM rfl rfl ?_
    refine xT.go hM rfl rfl rfl rfl rfl rfl (xc_init rfl rfl rfl ⟨rfl, Nat.le_of_ble_eq_true rfl, rfl, rfl, rfl⟩) rfl ⟨Nat.le_of_ble_eq_true rfl, Nat.le_of_ble_eq_true rfl, by decide⟩ (m_vinit w1.1 (by omega) (by omega)) (fun v n2 hv => ?_)
    obtain ⟨rfl, G, hV, g0, g1, g4, g3, fr2, l2, s2⟩ := hv
    have ext2 : ∀ (k : Nat) (x : ab_E), h[k]? = some x → n2[k]? = some x := fun k x hk => fr2 k x (w1.2.1 _ _ hk) (by have := x_lt hk; omega)
    have hP2 := hP.ext ext2
    have hN2 : m_N h q F 32 15 n2 F := m_N.ext ext2 (by omega) (by omega) (by omega)
    replace hq := fr2 _ _ hq (by omega)
    have hVx := hV
    refine xT.s1 hM rfl rfl ?_
    refine xT.s1 hM rfl rfl ?_
    refine xT.s1 hM rfl rfl ?_
    refine xT.s2 hM rfl rfl (x2_get rfl (Or.inl rfl) hq f10) ?_
    refine xT.put hM rfl rfl hVx.1 (Or.inr rfl) (by rw [hVx.2.1]; decide) (by rcases hw.rv with ⟨_, z⟩ | ⟨_, z⟩ <;> rw [z] <;> rfl) (Or.inl rfl) (fun p_1 G_1 eF eh up fb fo fl => ?_)
    have hV4 := hVx.put up fl fo (by decide)
    have hw4 := (hw.ext ext2).kept (fun k x hk hn => (up.2.1 k hn).trans hk) hV.1 (by decide)
    have hP4 := hP2.oth (fun k x hk hn => (up.2.1 k hn).trans hk) hV.1 (by decide) (by decide)
    have l4 := up.2.2.1
    have s4 := up.2.2.2
    have ext4 : ∀ (k : Nat) (x : ab_E), h[k]? = some x → p_1[k]? = some x := fun k x hk => (up.2.1 k (by have := x_lt hk; omega)).trans (ext2 k x hk)
    have hN4 : m_N h q F 32 15 p_1 F := m_N.ext ext4 (by omega) (by omega) (by omega)
    refine xT.s1 hM rfl rfl ?_
    refine xT.go hM rfl rfl rfl rfl rfl rfl (xc_virt rfl rfl rfl hP4.cell ⟨rfl, Nat.le_of_ble_eq_true rfl, rfl, Or.inl rfl⟩) rfl ⟨Nat.le_of_ble_eq_true rfl, Nat.le_of_ble_eq_true rfl, by decide⟩ (m_adv hE hP4 ⟨by have := hx.1; omega, by have := hx.2; omega⟩) (fun v n3 hv => ?_)
    obtain ⟨rfl, fr3, a3, F3, t3, w3, hP3, hN3, q1, q2, q3⟩ := hv
    refine xT.s1 hM rfl rfl ?_
    have hT2 : m_T (60 - o + 1) e p_1 h.length p_1.length h.length 1 := m_T.leaf ⟨hV4, ⟨k, (fo 0 (by decide)).trans g0, by omega, fun z => by omega, w, fb, Or.inr ⟨_, hw4⟩, fun _ => ⟨_, hw4⟩⟩, ⟨_, (fo 1 (by decide)).trans g1⟩, ⟨_, (fo 3 (by decide)).trans g3⟩, ⟨by omega, by omega⟩, ⟨by omega, by omega⟩, ⟨by omega, by omega⟩, ⟨by omega, by omega⟩⟩
    have hT3 := (m_T.kept _ _ _ _ _ (m_kp.fr hN3.2.1 hP4.cell (Or.inl hql)) hT2).wid (Nat.le_refl _) hN3.2.2.2.1
    exact xT.ret hM rfl rfl rfl rfl (⟨h.length, 1, fr3, a3, F3, t3, w3, _, _, rfl, hP3, hT3, q3 ht0.1 ht0.2, by have := q3 ht0.1 ht0.2; omega, by omega, hN4.tr hN3 (Nat.le_refl _) (Nat.le_refl _), by have := q3 ht0.1 ht0.2; omega, by have := q3 ht0.1 ht0.2; omega⟩)
  refine xT.s1 hM rfl rfl ?_
  refine xT.s1 hM rfl rfl ?_
  refine xT.s2 hM rfl rfl (x2_get rfl (Or.inl rfl) hq f6) ?_
  refine xT.s1 hM rfl rfl ?_
  refine xT.s1 hM rfl rfl ?_
  refine xT.br (fun b7 => ?_) (fun b7 => ?_)
  · refine xT.s1 hM rfl rfl ?_
    refine xT.s1 hM rfl rfl ?_
    exact fin 5 (by omega)
  · refine xT.s1 hM rfl rfl ?_
    refine xT.s2 hM rfl rfl (x2_get rfl (Or.inl rfl) hq f6) ?_
    refine xT.s1 hM rfl rfl ?_
    refine xT.s1 hM rfl rfl ?_
    refine xT.br (fun b8 => ?_) (fun b8 => ?_)
    · refine xT.s1 hM rfl rfl ?_
      refine xT.s1 hM rfl rfl ?_
      exact fin 6 (by omega)
    · refine xT.s1 hM rfl rfl ?_
      exact fin 7 (by omega)
end XVV
