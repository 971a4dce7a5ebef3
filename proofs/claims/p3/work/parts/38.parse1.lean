/-! the reference: open, whole, beginsValue -/
section XPB
variable {e : xE} {d q q8 tp fr a : Nat} {gb : Nat → Int32} {h h' : ab_H} {F F' : List Value} {t o : Int32} {w : Value}
theorem m_ok.kept {ci : Nat} {G : List Value} (hk : m_ok e h t w) (fr : ∀ (k : Nat) (x : ab_E), h[k]? = some x → k ≠ q → h'[k]? = some x) (hc : h[q]? = some (.inr (ci, G))) (h9 : ci ≠ 9) : m_ok e h' t w := by
  obtain ⟨k1, k2, k3⟩ := hk
  refine ⟨?_, ?_, k3⟩
  · rcases k1 with z | ⟨z, n, y⟩
    · exact Or.inl z
    · exact Or.inr ⟨z, n, y.kept fr hc h9⟩
  · rcases k2 with z | ⟨n, y⟩
    · exact Or.inl z
    · exact Or.inr ⟨n, y.kept fr hc h9⟩
theorem m_P.put12 {o' : Int32} (hP : m_P e h q q8 gb F tp fr a t w o) (u : x_up h q h' (.inr (3, F'))) (hl : F'.length = F.length) (fo : ∀ i, i ≠ 12 → F'[i]? = F[i]?) (fb : F'[12]? = some (.int o')) : m_P e h' q q8 gb F' tp fr a t w o' ∧ (∀ i, (i < 6 ∨ 12 < i) → F'[i]? = F[i]?) ∧ (∀ (k : Nat) (x : ab_E), h[k]? = some x → k ≠ q → h'[k]? = some x) ∧ 8 * h'.length ≤ 8 * h.length + 0 ∧ h.length ≤ h'.length ∧ ab_sz h' ≤ ab_sz h + 0 := by
  obtain ⟨⟨⟨hq, hl0, f1, f2, f6, f7, ⟨z8, f8⟩, ⟨n9, f9⟩, f10, f11, h8, htp⟩, -⟩, hk, ⟨qs, qk, sf, kf, c1, c2, c3, c4, c5, c6⟩, p1, p2, p4⟩ := hP
  have fr : ∀ (k : Nat) (x : ab_E), h[k]? = some x → k ≠ q → h'[k]? = some x := fun k x hk hn => (u.2.1 k hn).trans hk
  refine ⟨⟨⟨⟨u.1, hl.trans hl0, (fo 1 (by decide)).trans f1, (fo 2 (by decide)).trans f2, (fo 6 (by decide)).trans f6, (fo 7 (by decide)).trans f7, ⟨_, (fo 8 (by decide)).trans f8⟩, ⟨_, (fo 9 (by decide)).trans f9⟩, (fo 10 (by decide)).trans f10, (fo 11 (by decide)).trans f11, fr _ _ h8 (x_neq h8 hq (by simp)), htp⟩, fun _ _ => rfl, fun _ _ hk _ => hk⟩, hk.kept fr hq (by decide), ⟨qs, qk, sf, kf, (fo 4 (by decide)).trans c1, (fo 5 (by decide)).trans c2, fr _ _ c3 (x_neq c3 hq (by simp)), fr _ _ c4 (x_neq c4 hq (by simp)), c5, c6⟩, p1, p2, fb⟩, fun i hi => fo i (by omega), fr, by rw [u.2.2.1]; omega, by rw [u.2.2.1]; omega, by rw [u.2.2.2]; omega⟩
theorem m_Ex.pre {h1 h' : ab_H} {F1 : List Value} {c1 z1 c2 z2 c z ce xq : Nat} (k : m_Ex e h1 q q8 gb F1 tp c2 z2 ce xq h') (n1 : m_N h q F c1 z1 h1 F1) (hc : c1 + c2 ≤ c) (hz : z1 + z2 ≤ z) : m_Ex e h q q8 gb F tp c z ce xq h' := m_Ex.tr n1 k hc hz
theorem m_open {k : Nat} (hP : m_P e h q q8 gb F tp fr a t w (nI k)) (hr : x_rm e h) (hk60 : k ≤ 60) : xT e (d + 1) 31 0 [(0, .ref q)] [] h (x_Q (fun v h' => v = none ∧ k + 1 ≤ 60 ∧ ∃ F', m_P e h' q q8 gb F' tp fr a t w (nI (k + 1)) ∧ m_N h q F 0 0 h' F') (fun ce xq h' => m_Ex e h q q8 gb F tp 8 6 ce xq h')) := by
  have hM : (x_mt e.1)[31]? = some xM31 := rfl
  obtain ⟨⟨⟨hq, hl, f1, f2, f6, f7, ⟨z8, f8⟩, ⟨n9, f9⟩, f10, f11, h8, htp⟩, rest, fr0⟩, hk, hC, p1, p2, p4⟩ := id hP
  refine xT.s1 hM rfl rfl ?_
  refine xT.s1 hM rfl rfl ?_
  refine xT.s2 hM rfl rfl (x2_get rfl (Or.inl rfl) hq p4) ?_
  refine xT.s1 hM rfl rfl ?_
  refine xT.s1 hM rfl rfl ?_
  rw [show nI k + Int32.ofInt 1 = nI (k + 1) from nI_add k 1]
  refine xT.put hM rfl rfl hq (Or.inl rfl) (by rw [hl]; decide) (rfl) (Or.inl rfl) (fun h_1 F_1 eF eh up fb fo fl => ?_)
  obtain ⟨hP1, hN1⟩ := hP.put12 up fl fo fb
  have hN1 : m_N h q F 0 0 h_1 F_1 := hN1
  clear hq hl f1 f2 f6 f7 f8 f9 f10 f11 h8 htp rest fr0 hk hC p1 p2 p4
  obtain ⟨⟨⟨hq, hl, f1, f2, f6, f7, ⟨z8, f8⟩, ⟨n9, f9⟩, f10, f11, h8, htp⟩, rest, fr0⟩, hk, hC, p1, p2, p4⟩ := id hP1
  refine xT.s1 hM rfl rfl ?_
  refine xT.s1 hM rfl rfl ?_
  refine xT.s2 hM rfl rfl (x2_get rfl (Or.inl rfl) hq p4) ?_
  refine xT.s1 hM rfl rfl ?_
  have tail : ∀ (b : Int32), (¬ b = 0 → k + 1 ≤ 60) → xT e (d + 1) 31 25 [(0, .ref q)] [.int b, .ref q] h_1 (x_Q (fun v h' => v = none ∧ k + 1 ≤ 60 ∧ ∃ F', m_P e h' q q8 gb F' tp fr a t w (nI (k + 1)) ∧ m_N h q F 0 0 h' F') (fun ce xq h' => m_Ex e h q q8 gb F tp 8 6 ce xq h')) := by
    intro b hb
    have e1 := hN1.2.2.1
    have e2 := hN1.2.2.2.2
    refine xT.ca hM rfl rfl rfl rfl rfl rfl (xc_virt rfl rfl rfl hq ⟨rfl, Nat.le_of_ble_eq_true rfl, rfl, Or.inl rfl⟩) rfl ⟨Nat.le_of_ble_eq_true rfl, Nat.le_of_ble_eq_true rfl, by decide⟩ rfl (m_can (b := b) (by have := hr.1; omega) (by have := hr.2; omega)) (fun v h2 hv => ?_) (fun ce xq h2 he => (m_Ex.of hP1 he.2.1 he.2.2.1 he.2.2.2).pre hN1 (by omega) (by omega))
    obtain ⟨rfl, hh2, hbn⟩ := hv
    subst h2
    exact xT.ret hM rfl rfl rfl rfl (⟨rfl, hb hbn, _, hP1, hN1⟩)
  refine xT.s1 hM rfl rfl ?_
  refine xT.br (fun hb => ?_) (fun hb => ?_)
  · refine xT.s1 hM rfl rfl ?_
    exact tail _ (fun z => absurd (show Int32.ofInt 0 = 0 from by decide) z)
  · refine xT.s1 hM rfl rfl ?_
    refine xT.s1 hM rfl rfl ?_
    exact tail _ (fun _ => Nat.le_of_not_lt (fun z => hb (nI_lt (a := 60) z (by omega))))
/-- the words that the parser asks for -/
def m_ws (e : xE) : Prop := ∀ w ∈ ([3, 4, 5, 17, 18, 23, 24, 25] : List UInt32), ∃ n, j_old e (.float w) n
theorem m_wsok (e : xE) : m_ws e := by
  intro w hw
  simp only [List.mem_cons, List.mem_nil_iff, or_false] at hw
  rcases hw with rfl | rfl | rfl | rfl | rfl | rfl | rfl | rfl <;> exact ⟨_, _, _, _, rfl, rfl, rfl, by decide⟩
theorem m_begins (hP : m_P e h q q8 gb F tp fr a t w o) (hc : m_ws e) : xT e (d + 3) 29 0 [(0, .ref q)] [] h (fun o' h' => ∃ v, o' = .inl v ∧ (∃ b : Int32, v = some (.int b)) ∧ h' = h) := by
  have hM : (x_mt e.1)[29]? = some xM29 := rfl
  obtain ⟨⟨⟨hq, hl, f1, f2, f6, f7, ⟨z8, f8⟩, ⟨n9, f9⟩, f10, f11, h8, htp⟩, rest, fr0⟩, hk, hC, p1, p2, p4⟩ := id hP
  have yes : xT e (d + 3) 29 88 [(0, .ref q)] [] h (fun o' h' => ∃ v, o' = .inl v ∧ (∃ b : Int32, v = some (.int b)) ∧ h' = h) := by
    refine xT.s1 hM rfl rfl ?_
    refine xT.s1 hM rfl rfl ?_
    exact xT.ret hM rfl rfl rfl rfl (⟨_, rfl, ⟨_, rfl⟩, rfl⟩)
  refine xT.s1 hM rfl rfl ?_
  refine xT.s2 hM rfl rfl rfl ?_
  refine xT.go hM rfl rfl rfl rfl rfl rfl (xc_virt rfl rfl rfl hq ⟨rfl, Nat.le_of_ble_eq_true rfl, rfl, Or.inl rfl⟩) rfl ⟨Nat.le_of_ble_eq_true rfl, Nat.le_of_ble_eq_true rfl, by decide⟩ (m_is hP (hc _ (by simp))) (fun v h2 hv => ?_)
  obtain ⟨b, rfl, hb1, hb2, hh2⟩ := hv
  subst h2
  refine xT.s1 hM rfl rfl ?_
  refine xT.br (fun hbb => ?_) (fun hbb => ?_)
  · refine xT.s1 hM rfl rfl ?_
    refine xT.s2 hM rfl rfl rfl ?_
    refine xT.go hM rfl rfl rfl rfl rfl rfl (xc_virt rfl rfl rfl hq ⟨rfl, Nat.le_of_ble_eq_true rfl, rfl, Or.inl rfl⟩) rfl ⟨Nat.le_of_ble_eq_true rfl, Nat.le_of_ble_eq_true rfl, by decide⟩ (m_is hP (hc _ (by simp))) (fun v h2 hv => ?_)
    obtain ⟨b, rfl, hb1, hb2, hh2⟩ := hv
    subst h2
    refine xT.s1 hM rfl rfl ?_
    refine xT.br (fun hbb => ?_) (fun hbb => ?_)
    · refine xT.s1 hM rfl rfl ?_
      refine xT.s2 hM rfl rfl rfl ?_
      refine xT.go hM rfl rfl rfl rfl rfl rfl (xc_virt rfl rfl rfl hq ⟨rfl, Nat.le_of_ble_eq_true rfl, rfl, Or.inl rfl⟩) rfl ⟨Nat.le_of_ble_eq_true rfl, Nat.le_of_ble_eq_true rfl, by decide⟩ (m_is hP (hc _ (by simp))) (fun v h2 hv => ?_)
      obtain ⟨b, rfl, hb1, hb2, hh2⟩ := hv
      subst h2
      refine xT.s1 hM rfl rfl ?_
      refine xT.br (fun hbb => ?_) (fun hbb => ?_)
      · refine xT.s1 hM rfl rfl ?_
        refine xT.s2 hM rfl rfl rfl ?_
        refine xT.go hM rfl rfl rfl rfl rfl rfl (xc_virt rfl rfl rfl hq ⟨rfl, Nat.le_of_ble_eq_true rfl, rfl, Or.inl rfl⟩) rfl ⟨Nat.le_of_ble_eq_true rfl, Nat.le_of_ble_eq_true rfl, by decide⟩ (m_is hP (hc _ (by simp))) (fun v h2 hv => ?_)
        obtain ⟨b, rfl, hb1, hb2, hh2⟩ := hv
        subst h2
        refine xT.s1 hM rfl rfl ?_
        refine xT.br (fun hbb => ?_) (fun hbb => ?_)
        · refine xT.s1 hM rfl rfl ?_
          refine xT.s2 hM rfl rfl rfl ?_
          refine xT.go hM rfl rfl rfl rfl rfl rfl (xc_virt rfl rfl rfl hq ⟨rfl, Nat.le_of_ble_eq_true rfl, rfl, Or.inl rfl⟩) rfl ⟨Nat.le_of_ble_eq_true rfl, Nat.le_of_ble_eq_true rfl, by decide⟩ (m_is hP (hc _ (by simp))) (fun v h2 hv => ?_)
          obtain ⟨b, rfl, hb1, hb2, hh2⟩ := hv
          subst h2
          refine xT.s1 hM rfl rfl ?_
          refine xT.br (fun hbb => ?_) (fun hbb => ?_)
          · refine xT.s1 hM rfl rfl ?_
            refine xT.s2 hM rfl rfl (x2_get rfl (Or.inl rfl) hq f6) ?_
            refine xT.s1 hM rfl rfl ?_
            refine xT.s1 hM rfl rfl ?_
            refine xT.br (fun hb0 => ?_) (fun hb0 => ?_)
            · exact yes
            · refine xT.s1 hM rfl rfl ?_
              refine xT.s2 hM rfl rfl (x2_get rfl (Or.inl rfl) hq f6) ?_
              refine xT.s1 hM rfl rfl ?_
              refine xT.s1 hM rfl rfl ?_
              refine xT.br (fun hb1 => ?_) (fun hb1 => ?_)
              · exact yes
              · refine xT.s1 hM rfl rfl ?_
                refine xT.s2 hM rfl rfl (x2_get rfl (Or.inl rfl) hq f6) ?_
                refine xT.s1 hM rfl rfl ?_
                refine xT.s1 hM rfl rfl ?_
                refine xT.br (fun hb2 => ?_) (fun hb2 => ?_)
                · exact yes
                · refine xT.s1 hM rfl rfl ?_
                  refine xT.s2 hM rfl rfl (x2_get rfl (Or.inl rfl) hq f6) ?_
                  refine xT.s1 hM rfl rfl ?_
                  refine xT.s1 hM rfl rfl ?_
                  refine xT.br (fun hb3 => ?_) (fun hb3 => ?_)
                  · exact yes
                  · refine xT.s1 hM rfl rfl ?_
                    refine xT.s2 hM rfl rfl (x2_get rfl (Or.inl rfl) hq f6) ?_
                    refine xT.s1 hM rfl rfl ?_
                    refine xT.s1 hM rfl rfl ?_
                    refine xT.br (fun hb4 => ?_) (fun hb4 => ?_)
                    · exact yes
                    · refine xT.s1 hM rfl rfl ?_
                      exact xT.ret hM rfl rfl rfl rfl (⟨_, rfl, ⟨_, rfl⟩, rfl⟩)
          · exact yes
        · exact yes
      · exact yes
    · exact yes
  · exact yes
theorem m_whole (hE : e.1 = .null ∨ ∃ w, e.1 = .float w) (hP : m_P e h q q8 gb F tp fr a t w o) (hr0 : x_rm e h) (hr : 8 * h.length + 66 * (tp + 2 - m_ps tp a t) + 4900 ≤ 8 * e.2.2.2.1 + 33 * m_res gb tp a ∧ ab_sz h + 58 * (tp + 2 - m_ps tp a t) + 69000 ≤ e.2.2.2.2.1 + 29 * m_res gb tp a) (hc : m_ws e) : xT e (d + 9) 28 0 [(0, .ref q)] [] h (x_Q (fun v h' => (∃ n : Int64, v = some (.long n)) ∧ ∃ fr' a' F' t' w' c, m_P e h' q q8 gb F' tp fr' a' t' w' o ∧ m_N h q F (33 * c) (29 * c) h' F' ∧ m_ps tp a t + c ≤ m_ps tp a' t' ∧ fr < fr' ∧ m_res gb tp a ≤ c) (fun ce xq h' => ∃ c, m_Ex e h q q8 gb F tp (33 * c + 8) (29 * c + 6) ce xq h' ∧ ((c = 0) ∨ (m_res gb tp a ≤ c ∧ m_ps tp a t + c ≤ tp + 2)))) := by
  have hM : (x_mt e.1)[28]? = some xM28 := rfl
  obtain ⟨⟨⟨hq, hl, f1, f2, f6, f7, ⟨z8, f8⟩, ⟨n9, f9⟩, f10, f11, h8, htp⟩, rest, fr0⟩, hk, hC, p1, p2, p4⟩ := id hP
  refine xT.s1 hM rfl rfl ?_
  refine xT.s2 hM rfl rfl rfl ?_
  refine xT.go hM rfl rfl rfl rfl rfl rfl (xc_virt rfl rfl rfl hq ⟨rfl, Nat.le_of_ble_eq_true rfl, rfl, Or.inl rfl⟩) rfl ⟨Nat.le_of_ble_eq_true rfl, Nat.le_of_ble_eq_true rfl, by decide⟩ (m_is hP (hc _ (by simp))) (fun v h2 hv => ?_)
  obtain ⟨b, rfl, hb1, hb2, hh2⟩ := hv
  subst h2
  refine xT.s1 hM rfl rfl ?_
  refine xT.s1 hM rfl rfl ?_
  have tail : ∀ (c fr1 a1 : Nat) (F1 : List Value) (t1 : Int32) (w1 : Value) (h1 : ab_H), m_P e h1 q q8 gb F1 tp fr1 a1 t1 w1 o → m_N h q F (33 * c) (29 * c) h1 F1 → m_ps tp a t + c ≤ m_ps tp a1 t1 → fr ≤ fr1 → ((c = 0 ∧ a1 = a) ∨ m_res gb tp a ≤ c) → xT e (d + 9) 28 15 [(1, .int b), (0, .ref q)] [] h1 (x_Q (fun v h' => (∃ n : Int64, v = some (.long n)) ∧ ∃ fr' a' F' t' w' c, m_P e h' q q8 gb F' tp fr' a' t' w' o ∧ m_N h q F (33 * c) (29 * c) h' F' ∧ m_ps tp a t + c ≤ m_ps tp a' t' ∧ fr < fr' ∧ m_res gb tp a ≤ c) (fun ce xq h' => ∃ c, m_Ex e h q q8 gb F tp (33 * c + 8) (29 * c + 6) ce xq h' ∧ ((c = 0) ∨ (m_res gb tp a ≤ c ∧ m_ps tp a t + c ≤ tp + 2)))) := by
    intro c fr1 a1 F1 t1 w1 h1 hP hN1 hps hfr hcc
    obtain ⟨⟨⟨hq, hl, f1, f2, f6, f7, ⟨z8, f8⟩, ⟨n9, f9⟩, f10, f11, h8, htp⟩, rest, fr0⟩, hk, hC, p1, p2, p4⟩ := id hP
    have hr1 : x_rm e h1 := by
      rcases hcc with ⟨rfl, -⟩ | hcc
      · exact ⟨by have := hr0.1; have := hN1.2.2.1; omega, by have := hr0.2; have := hN1.2.2.2.2; have := hN1.2.2.2.1; omega⟩
      · exact ⟨by have := hr.1; have := hN1.2.2.1; have := hP.ps; omega, by have := hr.2; have := hr0.2; have := hN1.2.2.2.1; have := hN1.2.2.2.2; have := hP.ps; omega⟩
    have hcd : c = 0 ∨ (m_res gb tp a ≤ c ∧ m_ps tp a t + c ≤ tp + 2) := by
      rcases hcc with z | z
      · exact Or.inl z.1
      · exact Or.inr ⟨z, by have := hP.ps; omega⟩
    have hcr : m_res gb tp a ≤ c + m_res gb tp a1 := by
      rcases hcc with z | z
      · rw [z.2]; omega
      · omega
    refine xT.s1 hM rfl rfl ?_
    refine xT.s1 hM rfl rfl ?_
    refine xT.s2 hM rfl rfl (x2_get rfl (Or.inl rfl) hq f6) ?_
    refine xT.s1 hM rfl rfl ?_
    refine xT.s1 hM rfl rfl ?_
    refine xT.br (fun hb5 => ?_) (fun hb5 => ?_)
    · refine xT.s1 hM rfl rfl ?_
      refine xT.s1 hM rfl rfl ?_
      refine xT.ca hM rfl rfl rfl rfl rfl rfl (xc_virt rfl rfl rfl hq ⟨rfl, Nat.le_of_ble_eq_true rfl, rfl, Or.inl rfl⟩) rfl ⟨Nat.le_of_ble_eq_true rfl, Nat.le_of_ble_eq_true rfl, by decide⟩ rfl (m_can (by have := hr1.1; omega) (by have := hr1.2; omega)) (fun v h2 hv => ?_) (fun ce xq h2 he => ⟨c, (m_Ex.of hP he.2.1 he.2.2.1 he.2.2.2).pre hN1 (by omega) (by omega), hcd⟩)
      obtain ⟨rfl, hh2, hbn⟩ := hv
      subst h2
      refine xT.s1 hM rfl rfl ?_
      refine xT.s1 hM rfl rfl ?_
      refine xT.br (fun hb6 => ?_) (fun hb6 => ?_)
      · refine xT.s1 hM rfl rfl ?_
        refine xT.s2 hM rfl rfl (x2_get rfl (Or.inl rfl) hq f9) ?_
        refine xT.s1 hM rfl rfl ?_
        refine xT.s1 hM rfl rfl ?_
        refine xT.go hM rfl rfl rfl rfl rfl rfl (xc_virt rfl rfl rfl hq ⟨rfl, Nat.le_of_ble_eq_true rfl, rfl, Or.inl rfl⟩) rfl ⟨Nat.le_of_ble_eq_true rfl, Nat.le_of_ble_eq_true rfl, by decide⟩ (m_adv hE hP hr1) (fun v h2 hv => ?_)
        obtain ⟨rfl, fr2, a2, F2, t2, w2, hP2, hN2, q1, q2, q3⟩ := hv
        refine xT.s1 hM rfl rfl ?_
        exact xT.ret hM rfl rfl rfl rfl (⟨⟨_, rfl⟩, fr2, a2, F2, t2, w2, c + m_res gb tp a1, hP2, hN1.tr hN2 (by omega) (by omega), by omega, by have := q3 (by rw [hb5]; decide) (by rw [hb5]; decide); omega, hcr⟩)
      · refine xT.s1 hM rfl rfl ?_
        refine xT.s2 hM rfl rfl (x2_get rfl (Or.inl rfl) hq f9) ?_
        refine xT.s1 hM rfl rfl ?_
        refine xT.s1 hM rfl rfl ?_
        refine xT.s1 hM rfl rfl ?_
        refine xT.s1 hM rfl rfl ?_
        refine xT.go hM rfl rfl rfl rfl rfl rfl (xc_virt rfl rfl rfl hq ⟨rfl, Nat.le_of_ble_eq_true rfl, rfl, Or.inl rfl⟩) rfl ⟨Nat.le_of_ble_eq_true rfl, Nat.le_of_ble_eq_true rfl, by decide⟩ (m_adv hE hP hr1) (fun v h2 hv => ?_)
        obtain ⟨rfl, fr2, a2, F2, t2, w2, hP2, hN2, q1, q2, q3⟩ := hv
        refine xT.s1 hM rfl rfl ?_
        exact xT.ret hM rfl rfl rfl rfl (⟨⟨_, rfl⟩, fr2, a2, F2, t2, w2, c + m_res gb tp a1, hP2, hN1.tr hN2 (by omega) (by omega), by omega, by have := q3 (by rw [hb5]; decide) (by rw [hb5]; decide); omega, hcr⟩)
    · refine xT.s1 hM rfl rfl ?_
      refine xT.ca hM rfl rfl rfl rfl rfl rfl (xc_virt rfl rfl rfl hq ⟨rfl, Nat.le_of_ble_eq_true rfl, rfl, Or.inl rfl⟩) rfl ⟨Nat.le_of_ble_eq_true rfl, Nat.le_of_ble_eq_true rfl, by decide⟩ rfl (m_can (by have := hr1.1; omega) (by have := hr1.2; omega)) (fun v h2 hv => ?_) (fun ce xq h2 he => ⟨c, (m_Ex.of hP he.2.1 he.2.2.1 he.2.2.2).pre hN1 (by omega) (by omega), hcd⟩)
      exact absurd (show Int32.ofInt 0 = 0 from by decide) hv.2.2
  refine xT.s1 hM rfl rfl ?_
  refine xT.br (fun hbm => ?_) (fun hbm => ?_)
  · exact tail 0 fr a F t w h hP (m_N.rf _ _ _) (by omega) (Nat.le_refl _) (Or.inl ⟨rfl, rfl⟩)
  · refine xT.s1 hM rfl rfl ?_
    refine xT.go hM rfl rfl rfl rfl rfl rfl (xc_virt rfl rfl rfl hq ⟨rfl, Nat.le_of_ble_eq_true rfl, rfl, Or.inl rfl⟩) rfl ⟨Nat.le_of_ble_eq_true rfl, Nat.le_of_ble_eq_true rfl, by decide⟩ (m_adv hE hP hr0) (fun v h2 hv => ?_)
    obtain ⟨rfl, fr2, a2, F2, t2, w2, hP2, hN2, q1, q2, q3⟩ := hv
    exact tail _ fr2 a2 F2 t2 w2 h2 hP2 hN2 q1 q2 (Or.inr (Nat.le_refl _))
end XPB
