/-! the reference: what its parser keeps -/
theorem m_X.self {h0 h : ab_H} {q q8 : Nat} {gb : Nat → Int32} {F0 F : List Value} {tp fr a : Nat} {t : Int32} {w : Value} (hX : m_X h0 h q q8 gb F0 F tp fr a t w) : m_X h h q q8 gb F F tp fr a t w := ⟨hX.1, fun _ _ => rfl, fun _ _ hk _ => hk⟩
/-- the state between tokens -/
def m_P (e : xE) (h : ab_H) (q q8 : Nat) (gb : Nat → Int32) (F : List Value) (tp fr a : Nat) (t : Int32) (w : Value) (o : Int32) : Prop := m_X h h q q8 gb F F tp fr a t w ∧ m_ok e h t w ∧ m_C e h F ∧ a ≤ tp + 2 ∧ ((t = 0 ∧ a = tp ∧ fr = tp) ∨ (t ≠ 0 ∧ fr < tp ∧ fr ≤ a ∧ (t = 1 ∨ fr < a))) ∧ F[12]? = some (.int o)
/-- how far a state is -/
def m_ps (tp a : Nat) (t : Int32) : Nat := if t = 0 then tp + 2 else a
/-- from one state to a later one: fields that stay, cells that stay, what it cost -/
def m_N (h : ab_H) (q : Nat) (F : List Value) (c z : Nat) (h' : ab_H) (F' : List Value) : Prop := (∀ i, (i < 6 ∨ 12 < i) → F'[i]? = F[i]?) ∧ (∀ (k : Nat) (x : ab_E), h[k]? = some x → k ≠ q → h'[k]? = some x) ∧ 8 * h'.length ≤ 8 * h.length + c ∧ h.length ≤ h'.length ∧ ab_sz h' ≤ ab_sz h + z
theorem m_N.rf (h : ab_H) (q : Nat) (F : List Value) : m_N h q F 0 0 h F := ⟨fun _ _ => rfl, fun _ _ hk _ => hk, by omega, by omega, by omega⟩
theorem m_N.tr {h h1 h2 : ab_H} {q : Nat} {F F1 F2 : List Value} {c z c1 z1 c2 z2 : Nat} (n1 : m_N h q F c1 z1 h1 F1) (n2 : m_N h1 q F1 c2 z2 h2 F2) (hc : c1 + c2 ≤ c) (hz : z1 + z2 ≤ z) : m_N h q F c z h2 F2 :=
  ⟨fun i hi => (n2.1 i hi).trans (n1.1 i hi), fun k x hk hn => n2.2.1 k x (n1.2.1 k x hk hn) hn, by have := n1.2.2.1; have := n2.2.2.1; omega, by have := n1.2.2.2.1; have := n2.2.2.2.1; omega, by have := n1.2.2.2.2; have := n2.2.2.2.2; omega⟩
theorem m_N.mono {h h1 : ab_H} {q : Nat} {F F1 : List Value} {c z c1 z1 : Nat} (n1 : m_N h q F c1 z1 h1 F1) (hc : c1 ≤ c) (hz : z1 ≤ z) : m_N h q F c z h1 F1 := n1.tr (m_N.rf _ _ _) (by omega) (by omega)
section XPA
variable {e : xE} {d q q8 tp fr a : Nat} {gb : Nat → Int32} {h h' : ab_H} {F F' : List Value} {t o : Int32} {w : Value}
/-- cells have come -/
theorem m_P.ext (hP : m_P e h q q8 gb F tp fr a t w o) (x : ∀ (k : Nat) (x : ab_E), h[k]? = some x → h'[k]? = some x) : m_P e h' q q8 gb F tp fr a t w o := by
  obtain ⟨hX, ⟨k1, k2, k3⟩, ⟨qs, qk, sf, kf, c1, c2, c3, c4, c5, c6⟩, p1, p2, p4⟩ := hP
  refine ⟨(hX.ext x).self, ⟨?_, ?_, k3⟩, ⟨qs, qk, sf, kf, c1, c2, x _ _ c3, x _ _ c4, c5, c6⟩, p1, p2, p4⟩
  · rcases k1 with z | ⟨z, n, y⟩
    · exact Or.inl z
    · exact Or.inr ⟨z, n, y.ext x⟩
  · rcases k2 with z | ⟨n, y⟩
    · exact Or.inl z
    · exact Or.inr ⟨n, y.ext x⟩
theorem m_P.ps (hP : m_P e h q q8 gb F tp fr a t w o) : m_ps tp a t ≤ tp + 2 := by
  have := hP.2.2.2.1
  unfold m_ps
  split <;> omega
theorem m_P.frl (hP : m_P e h q q8 gb F tp fr a t w o) : fr ≤ tp := by
  rcases hP.2.2.2.2.1 with z | z <;> omega
theorem m_P.cell (hP : m_P e h q q8 gb F tp fr a t w o) : h[q]? = some (.inr (3, F)) := hP.1.1.1
theorem m_P.len (hP : m_P e h q q8 gb F tp fr a t w o) : F.length = 21 := hP.1.1.2.1
theorem m_P.tpl (hP : m_P e h q q8 gb F tp fr a t w o) : tp ≤ 4096 := hP.1.lt
/-- advance, between states -/
theorem m_adv (hE : e.1 = .null ∨ ∃ w, e.1 = .float w) (hP : m_P e h q q8 gb F tp fr a t w o) (hr : x_rm e h) : xT e (d + 8) 19 0 [(0, .ref q)] [] h (fun o' h' => ∃ v, o' = .inl v ∧ v = none ∧ ∃ fr' a' F' t' w', m_P e h' q q8 gb F' tp fr' a' t' w' o ∧ m_N h q F (33 * m_res gb tp a) (29 * m_res gb tp a) h' F' ∧ m_ps tp a t + m_res gb tp a ≤ m_ps tp a' t' ∧ fr ≤ fr' ∧ (t ≠ 0 → t ≠ 1 → fr < fr')) := by
  obtain ⟨hX, hk, hC, p1, p2, p4⟩ := hP
  refine (m_advance hE hX hC hk.2.1 hr p1).mono (fun o' h' ho => ?_)
  obtain ⟨v, e1, e2, fr', a', F', t', w', hX', hk', g1, g2, g3, g4, g5, g6, g7⟩ := ho
  refine ⟨v, e1, e2, fr', a', F', t', w', ⟨hX'.self, hk', hX'.C hX.1.1 hC, g1, ?_, (hX'.2.1 12 (by omega)).trans p4⟩, ⟨fun i hi => hX'.2.1 i (by omega), hX'.2.2, g5, g6, g7⟩, ?_⟩
  · rcases g4 with z | z
    · exact Or.inl ⟨z.1, z.2.1, z.2.2.1⟩
    · exact Or.inr ⟨z.2.2.1, z.2.1, g3, z.2.2.2.1⟩
  · unfold m_ps
    rcases g4 with ⟨z1, z2, z3, z4⟩ | ⟨z1, z2, z3, z4, z5⟩
    · rw [if_pos z1, z4]
      rcases p2 with ⟨y1, y2, y3⟩ | ⟨y1, y2, y3, y4⟩
      · rw [if_pos y1]; exact ⟨by omega, by omega, fun x => absurd y1 x⟩
      · rw [if_neg y1]; exact ⟨by omega, by omega, fun _ _ => by omega⟩
    · rw [if_neg z3]
      rcases p2 with ⟨y1, y2, y3⟩ | ⟨y1, y2, y3, y4⟩
      · omega
      · rw [if_neg y1]
        refine ⟨z5, by omega, fun _ x => ?_⟩
        rcases y4 with y4 | y4
        · exact absurd y4 x
        · omega
theorem m_is {ws : UInt32} (hP : m_P e h q q8 gb F tp fr a t w o) (hs : ∃ n, j_old e (.float ws) n) : xT e (d + 2) 24 0 [(0, .ref q), (1, .float ws)] [] h (fun o' h' => ∃ v, o' = .inl v ∧ ∃ b : Int32, v = some (.int b) ∧ (b = 0 ∨ b = 1) ∧ (b = 1 → t = 2 ∨ t = 9) ∧ h' = h) := by
  have hM : (x_mt e.1)[24]? = some xM24 := rfl
  obtain ⟨⟨⟨hq, hl, f1, f2, f6, f7, ⟨z8, f8⟩, ⟨n9, f9⟩, f10, f11, h8, htp⟩, rest, fr0⟩, hk, hC, p1, p2, p4⟩ := id hP
  refine xT.s1 hM rfl rfl ?_
  refine xT.s2 hM rfl rfl (x2_get rfl (Or.inl rfl) hq f6) ?_
  refine xT.s1 hM rfl rfl ?_
  have tail : (t = 2 ∨ t = 9) → xT e (d + 2) 24 17 [(0, .ref q), (1, .float ws)] [] h (fun o' h' => ∃ v, o' = .inl v ∧ ∃ b : Int32, v = some (.int b) ∧ (b = 0 ∨ b = 1) ∧ (b = 1 → t = 2 ∨ t = 9) ∧ h' = h) := by
    intro ht
    obtain ⟨nw, hw⟩ : ∃ n, j_str e h w n := by
      rcases hk.1 with z | z
      · rcases ht with y | y <;> (rw [y] at z; exact absurd z (by decide))
      · exact z.2
    obtain ⟨Fk, rk, gk, kk, -⟩ := id hw
    obtain ⟨n2, hs⟩ := hs
    refine xT.s1 hM rfl rfl ?_
    refine xT.s2 hM rfl rfl (x2_get rfl (Or.inl rfl) hq f10) ?_
    refine xT.s1 hM rfl rfl ?_
    refine xT.go hM rfl rfl rfl rfl rfl rfl (xc_sv rfl rfl rfl kk ⟨rfl, Nat.le_of_ble_eq_true rfl, rfl⟩) rfl ⟨Nat.le_of_ble_eq_true rfl, by show (lg_sl [w, Value.float ws]).length ≤ 3; rw [hw.rv.sl2 rfl]; decide, by decide⟩ (xT.cast (hw.rv.lv2 _) (j_equals hw (hs.str h))) (fun v h2 hv => ?_)
    obtain ⟨hv, hh2⟩ := hv
    subst h2
    rcases hv with rfl | rfl
    · refine xT.s1 hM rfl rfl ?_
      refine xT.brT (rfl) ?_
      refine xT.s1 hM rfl rfl ?_
      exact xT.ret hM rfl rfl rfl rfl (⟨_, rfl, _, rfl, Or.inl (by decide), fun _ => ht, rfl⟩)
    · refine xT.s1 hM rfl rfl ?_
      refine xT.brF (by decide) ?_
      refine xT.s1 hM rfl rfl ?_
      refine xT.s1 hM rfl rfl ?_
      exact xT.ret hM rfl rfl rfl rfl (⟨_, rfl, _, rfl, Or.inr (by decide), fun _ => ht, rfl⟩)
  refine xT.s1 hM rfl rfl ?_
  refine xT.br (fun hb => ?_) (fun hb => ?_)
  · exact tail (Or.inl hb)
  · refine xT.s1 hM rfl rfl ?_
    refine xT.s2 hM rfl rfl (x2_get rfl (Or.inl rfl) hq f6) ?_
    refine xT.s1 hM rfl rfl ?_
    refine xT.s1 hM rfl rfl ?_
    refine xT.br (fun hb2 => ?_) (fun hb2 => ?_)
    · exact tail (Or.inr hb2)
    · refine xT.s1 hM rfl rfl ?_
      exact xT.ret hM rfl rfl rfl rfl (⟨_, rfl, _, rfl, Or.inl (by decide), fun z => absurd z (by decide), rfl⟩)
theorem m_can {b : Int32} (r1 : h.length + 1 ≤ e.2.2.2.1) (r2 : ab_sz h + 6 ≤ e.2.2.2.2.1) : xT e d 25 0 [(0, .ref q), (1, .int b)] [] h (x_Q (fun v h' => v = none ∧ h' = h ∧ ¬ b = 0) (fun ce xq h' => b = 0 ∧ ce = 6 ∧ xq = h.length ∧ h' = h ++ [.inr (6, List.replicate 6 .null)])) := by
  have hM : (x_mt e.1)[25]? = some xM25 := rfl
  refine xT.s1 hM rfl rfl ?_
  refine xT.s1 hM rfl rfl ?_
  refine xT.br (fun hb => ?_) (fun hb => ?_)
  · exact xT.th0 hM rfl rfl rfl rfl rfl rfl rfl rfl rfl rfl ⟨r1, r2⟩ ⟨hb, rfl, rfl, rfl⟩
  · exact xT.ret hM rfl rfl rfl rfl (⟨rfl, rfl, hb⟩)
/-- thrown: the exception lies there, the state is whole -/
def m_Ex (e : xE) (h : ab_H) (q q8 : Nat) (gb : Nat → Int32) (F : List Value) (tp : Nat) (c z : Nat) (ce xq : Nat) (h' : ab_H) : Prop := ce = 6 ∧ (∃ fs, h'[xq]? = some (.inr (6, fs))) ∧ ∃ fr' a' F' t' w' o', m_P e h' q q8 gb F' tp fr' a' t' w' o' ∧ m_N h q F c z h' F'
theorem m_Ex.of (hP : m_P e h q q8 gb F tp fr a t w o) {ce xq : Nat} (h1 : ce = 6) (h2 : xq = h.length) (h3 : h' = h ++ [.inr (6, List.replicate 6 .null)]) : m_Ex e h q q8 gb F tp 8 6 ce xq h' := by
  have w := x_nw_push h (.inr (6, List.replicate 6 .null))
  rw [← h3] at w
  exact ⟨h1, ⟨_, by rw [h2]; exact w.1⟩, _, _, _, _, _, _, hP.ext w.2.1, fun _ _ => rfl, fun k x hk _ => w.2.1 k x hk, by rw [w.2.2.1]; omega, by rw [w.2.2.1]; omega, by rw [w.2.2.2]; exact Nat.le_refl _⟩
theorem m_Ex.tr {h1 : ab_H} {F1 : List Value} {c1 z1 c2 z2 c z ce xq : Nat} (n1 : m_N h q F c1 z1 h1 F1) (k : m_Ex e h1 q q8 gb F1 tp c2 z2 ce xq h') (hc : c1 + c2 ≤ c) (hz : z1 + z2 ≤ z) : m_Ex e h q q8 gb F tp c z ce xq h' := by
  obtain ⟨k1, k2, fr', a', F', t', w', o', k3, k4⟩ := k
  exact ⟨k1, k2, fr', a', F', t', w', o', k3, n1.tr k4 hc hz⟩
theorem m_expect {ws : UInt32} (hE : e.1 = .null ∨ ∃ w, e.1 = .float w) (hP : m_P e h q q8 gb F tp fr a t w o) (hr : x_rm e h) (hs : ∃ n, j_old e (.float ws) n) : xT e (d + 9) 26 0 [(0, .ref q), (1, .float ws)] [] h (x_Q (fun v h' => v = none ∧ (t = 2 ∨ t = 9) ∧ ∃ fr' a' F' t' w', m_P e h' q q8 gb F' tp fr' a' t' w' o ∧ m_N h q F (33 * m_res gb tp a) (29 * m_res gb tp a) h' F' ∧ m_ps tp a t + m_res gb tp a ≤ m_ps tp a' t' ∧ fr ≤ fr' ∧ (t ≠ 0 → t ≠ 1 → fr < fr')) (fun ce xq h' => m_Ex e h q q8 gb F tp 8 6 ce xq h')) := by
  have hM : (x_mt e.1)[26]? = some xM26 := rfl
  obtain ⟨⟨⟨hq, hl, f1, f2, f6, f7, ⟨z8, f8⟩, ⟨n9, f9⟩, f10, f11, h8, htp⟩, rest, fr0⟩, hk, hC, p1, p2, p4⟩ := id hP
  refine xT.s1 hM rfl rfl ?_
  refine xT.s1 hM rfl rfl ?_
  refine xT.s1 hM rfl rfl ?_
  refine xT.go hM rfl rfl rfl rfl rfl rfl (xc_virt rfl rfl rfl hq ⟨rfl, Nat.le_of_ble_eq_true rfl, rfl, Or.inl rfl⟩) rfl ⟨Nat.le_of_ble_eq_true rfl, Nat.le_of_ble_eq_true rfl, by decide⟩ (m_is hP hs) (fun v h2 hv => ?_)
  obtain ⟨b, rfl, hb1, hb2, hh2⟩ := hv
  subst h2
  refine xT.ca hM rfl rfl rfl rfl rfl rfl (xc_virt rfl rfl rfl hq ⟨rfl, Nat.le_of_ble_eq_true rfl, rfl, Or.inl rfl⟩) rfl ⟨Nat.le_of_ble_eq_true rfl, Nat.le_of_ble_eq_true rfl, by decide⟩ rfl (m_can (b := b) (by have := hr.1; omega) (by have := hr.2; omega)) (fun v h2 hv => ?_) (fun ce xq h2 he => m_Ex.of hP he.2.1 he.2.2.1 he.2.2.2)
  obtain ⟨rfl, hh2, hbn⟩ := hv
  subst h2
  refine xT.s1 hM rfl rfl ?_
  refine xT.go hM rfl rfl rfl rfl rfl rfl (xc_virt rfl rfl rfl hq ⟨rfl, Nat.le_of_ble_eq_true rfl, rfl, Or.inl rfl⟩) rfl ⟨Nat.le_of_ble_eq_true rfl, Nat.le_of_ble_eq_true rfl, by decide⟩ (m_adv hE hP hr) (fun v h2 hv => ?_)
  obtain ⟨rfl, hv⟩ := hv
  have ht29 : t = 2 ∨ t = 9 := by
    rcases hb1 with z | z
    · exact absurd z hbn
    · exact hb2 z
  exact xT.ret hM rfl rfl rfl rfl (⟨rfl, ht29, hv⟩)
theorem m_take {kd : Int32} (hE : e.1 = .null ∨ ∃ w, e.1 = .float w) (hP : m_P e h q q8 gb F tp fr a t w o) (hr : x_rm e h) (hkd : kd = 4) : xT e (d + 9) 27 0 [(0, .ref q), (1, .int kd)] [] h (x_Q (fun v h' => t = kd ∧ v = some w ∧ ∃ fr' a' F' t' w', m_P e h' q q8 gb F' tp fr' a' t' w' o ∧ m_N h q F (33 * m_res gb tp a) (29 * m_res gb tp a) h' F' ∧ m_ps tp a t + m_res gb tp a ≤ m_ps tp a' t' ∧ fr ≤ fr' ∧ (t ≠ 0 → t ≠ 1 → fr < fr')) (fun ce xq h' => m_Ex e h q q8 gb F tp 8 6 ce xq h')) := by
  have hM : (x_mt e.1)[27]? = some xM27 := rfl
  obtain ⟨⟨⟨hq, hl, f1, f2, f6, f7, ⟨z8, f8⟩, ⟨n9, f9⟩, f10, f11, h8, htp⟩, rest, fr0⟩, hk, hC, p1, p2, p4⟩ := id hP
  refine xT.s1 hM rfl rfl ?_
  refine xT.s1 hM rfl rfl ?_
  refine xT.s2 hM rfl rfl (x2_get rfl (Or.inl rfl) hq f6) ?_
  refine xT.s1 hM rfl rfl ?_
  have tail : ∀ (b : Int32), (¬ b = 0 → t = kd) → xT e (d + 9) 27 14 [(0, .ref q), (1, .int kd)] [.int b, .ref q] h (x_Q (fun v h' => t = kd ∧ v = some w ∧ ∃ fr' a' F' t' w', m_P e h' q q8 gb F' tp fr' a' t' w' o ∧ m_N h q F (33 * m_res gb tp a) (29 * m_res gb tp a) h' F' ∧ m_ps tp a t + m_res gb tp a ≤ m_ps tp a' t' ∧ fr ≤ fr' ∧ (t ≠ 0 → t ≠ 1 → fr < fr')) (fun ce xq h' => m_Ex e h q q8 gb F tp 8 6 ce xq h')) := by
    intro b hb
    refine xT.ca hM rfl rfl rfl rfl rfl rfl (xc_virt rfl rfl rfl hq ⟨rfl, Nat.le_of_ble_eq_true rfl, rfl, Or.inl rfl⟩) rfl ⟨Nat.le_of_ble_eq_true rfl, Nat.le_of_ble_eq_true rfl, by decide⟩ rfl (m_can (b := b) (by have := hr.1; omega) (by have := hr.2; omega)) (fun v h2 hv => ?_) (fun ce xq h2 he => m_Ex.of hP he.2.1 he.2.2.1 he.2.2.2)
    obtain ⟨rfl, hh2, hbn⟩ := hv
    subst h2
    have ht := hb hbn
    obtain ⟨sw, rfl⟩ := hk.2.2 (ht.trans hkd)
    refine xT.s1 hM rfl rfl ?_
    refine xT.s2 hM rfl rfl (x2_get rfl (Or.inl rfl) hq f10) ?_
    refine xT.s1 hM rfl rfl ?_
    refine xT.s1 hM rfl rfl ?_
    refine xT.go hM rfl rfl rfl rfl rfl rfl (xc_virt rfl rfl rfl hq ⟨rfl, Nat.le_of_ble_eq_true rfl, rfl, Or.inl rfl⟩) rfl ⟨Nat.le_of_ble_eq_true rfl, Nat.le_of_ble_eq_true rfl, by decide⟩ (m_adv hE hP hr) (fun v h2 hv => ?_)
    obtain ⟨rfl, hv⟩ := hv
    refine xT.s1 hM rfl rfl ?_
    exact xT.ret hM rfl rfl rfl rfl (⟨ht, rfl, hv⟩)
  refine xT.s1 hM rfl rfl ?_
  refine xT.br (fun hb => ?_) (fun hb => ?_)
  · refine xT.s1 hM rfl rfl ?_
    refine xT.s1 hM rfl rfl ?_
    exact tail _ (fun _ => hb)
  · refine xT.s1 hM rfl rfl ?_
    exact tail _ (fun z => absurd (show Int32.ofInt 0 = 0 from by decide) z)
end XPA
