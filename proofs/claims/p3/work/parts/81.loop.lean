/-! the law: its loop -/
section XLL
variable {e : xE} {d q0 qt qb ql qa qo q q8 len tp cap nn capm k : Nat} {gb gm gm2 : Nat → Int32} {h h' : ab_H} {y : Int64} {F F2 : List Value} {R R2 : Nat → Nat} {A A2 : m_AT} {Q : ab_O → ab_H → Prop}
theorem l_sw (w : Int32) : ∃ T, (T = 96 ∨ T = 172 ∨ T = 228 ∨ T = 244 ∨ T = 257 ∨ T = 297 ∨ T = 337 ∨ T = 365 ∨ T = 405 ∨ T = 445 ∨ T = 473) ∧ ab_sw 40 (.tableswitch 433 0 9 #[56, 132, 188, 204, 217, 257, 297, 325, 365, 405]) [.int w] = some (T, []) := by
  by_cases h : w.toInt < 0 ∨ 9 < w.toInt
  · exact ⟨473, by omega, by simp only [ab_sw]; rw [if_pos h]; rfl⟩
  · rcases (show w.toInt = 0 ∨ w.toInt = 1 ∨ w.toInt = 2 ∨ w.toInt = 3 ∨ w.toInt = 4 ∨ w.toInt = 5 ∨ w.toInt = 6 ∨ w.toInt = 7 ∨ w.toInt = 8 ∨ w.toInt = 9 from by omega) with z | z | z | z | z | z | z | z | z | z
    · exact ⟨96, by omega, by simp only [ab_sw]; rw [if_neg h, z]; rfl⟩
    · exact ⟨172, by omega, by simp only [ab_sw]; rw [if_neg h, z]; rfl⟩
    · exact ⟨228, by omega, by simp only [ab_sw]; rw [if_neg h, z]; rfl⟩
    · exact ⟨244, by omega, by simp only [ab_sw]; rw [if_neg h, z]; rfl⟩
    · exact ⟨257, by omega, by simp only [ab_sw]; rw [if_neg h, z]; rfl⟩
    · exact ⟨297, by omega, by simp only [ab_sw]; rw [if_neg h, z]; rfl⟩
    · exact ⟨337, by omega, by simp only [ab_sw]; rw [if_neg h, z]; rfl⟩
    · exact ⟨365, by omega, by simp only [ab_sw]; rw [if_neg h, z]; rfl⟩
    · exact ⟨405, by omega, by simp only [ab_sw]; rw [if_neg h, z]; rfl⟩
    · exact ⟨445, by omega, by simp only [ab_sw]; rw [if_neg h, z]; rfl⟩
theorem l_loop (hE : e.1 = .null ∨ ∃ w, e.1 = .float w) (hNC : e.2.2.2.1 = 601024) (hNS : e.2.2.2.2.1 = 7293034) (hL : e.2.1 ≤ 3072) : ∀ (m k len : Nat) (h : ab_H), e.2.1 - 6 * k < m → 6 * k ≤ e.2.1 → l_I e h q0 qt qb ql qa qo q q8 k len → xT e (d + 300) 0 23 [(4, .int (nI (6 * k))), (3, .ref qo), (2, .ref q), (1, .ref q0), (0, .float 0)] [] h (fun o _ => o = .inl (some (.int 1))) := by
  have hM : (x_mt e.1)[0]? = some xM0 := rfl
  intro m
  induction m with
  | zero => intro k len h m1; omega
  | succ m ih =>
    intro k len h m1 hk I
    refine xT.s1 hM rfl rfl ?_
    refine xT.s1 hM rfl rfl ?_
    refine xT.slen hM rfl ?_
    refine xT.s1 hM rfl rfl ?_
    refine xT.s1 hM rfl rfl ?_
    refine xT.s1 hM rfl rfl ?_
    refine xT.br (fun hb => ?_) (fun hb => ?_)
    · refine xT.s1 hM rfl rfl ?_
      exact xT.ret hM rfl rfl rfl rfl rfl
    · have hk6 : 6 * k + 6 ≤ e.2.1 := l_cmp hL (by omega) hb
      have next : ∀ (h' : ab_H) (len2 : Nat), l_I e h' q0 qt qb ql qa qo q q8 (k + 1) len2 → xT e (d + 300) 0 473 [(4, .int (nI (6 * k))), (3, .ref qo), (2, .ref q), (1, .ref q0), (0, .float 0)] [] h' (fun o _ => o = .inl (some (.int 1))) := by
        intro h' len2 I2
        refine xT.s1 hM rfl rfl ?_
        refine xT.s1 hM rfl rfl ?_
        rw [show nI (6 * k) + Int32.ofInt 6 = nI (6 * (k + 1)) from nI_add (6 * k) 6]
        exact xT.weak (L' := [(4, _), (3, _), (2, _), (1, _), (0, _)]) ⟨by simp, by simp⟩ (ih (k + 1) len2 h' (by omega) (by omega) I2)
      refine xT.s1 hM rfl rfl ?_
      refine xT.s1 hM rfl rfl ?_
      refine xT.sld (j := 6 * k) hM rfl rfl (by omega) (by omega) ?_
      refine xT.s1 hM rfl rfl ?_
      refine xT.s1 hM rfl rfl ?_
      obtain ⟨T, hT, hsw⟩ := l_sw (e.2.2.1 (6 * k) &&& (Int8.ofInt 15).toInt32)
      refine xT.sw hM rfl rfl rfl rfl hsw ?_
      rcases hT with rfl | rfl | rfl | rfl | rfl | rfl | rfl | rfl | rfl | rfl | rfl
      · exact l_c0 I hk6 hE hNC hNS hL next
      · exact l_c1 I hk6 hE hNC hNS hL next
      · exact l_c2 I hk6 hE hNC hNS hL next
      · exact l_c3 I hk6 hE hNC hNS hL next
      · exact l_c4 I hk6 hE hNC hNS hL next
      · exact l_c5 I hk6 hE hNC hNS hL next
      · exact l_c6 I hk6 hE hNC hNS hL next
      · exact l_c7 I hk6 hE hNC hNS hL next
      · exact l_c8 I hk6 hE hNC hNS hL next
      · exact l_c9 I hk6 hE hNC hNS hL next
      · exact next _ _ (l_idle I)
end XLL
