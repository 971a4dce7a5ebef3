/-! the reference: what value and braces keep -/
section XVL
variable {e : xE} {q q8 tp fr a : Nat} {gb : Nat → Int32} {h h' h0 : ab_H} {F F0 : List Value} {t o : Int32} {w : Value}
theorem m_lxE_le {f : Nat} (hf : f < tp) : m_lxE gb tp f ≤ tp + 2 := by
  unfold m_lxE
  split
  · have : m_end (m_wS gb tp) tp f ≤ tp := m_end_le m_wS_le (by omega)
    omega
  · split
    · have : m_end (m_sS gb tp) tp (f + 1) ≤ tp := m_end_le (fun a b z => by
        unfold m_sS at z
        split at z
        · split at z
          · split at z
            · rename_i h1 h2 h3
              cases z
              have : a + 1 < tp := x_byIn (fun y => by rw [y] at h3; exact absurd h3 (by decide))
              omega
            · cases z
          · cases z; omega
        · cases z) (by omega)
      unfold m_sE
      split <;> omega
    · have : m_end (m_qS gb tp) tp (f + 1) ≤ tp := m_end_le (fun a b z => by
        unfold m_qS at z
        split at z
        · cases z; omega
        · cases z) (by omega)
      unfold m_qE
      split <;> omega
theorem m_res_le (hP : m_P e h q q8 gb F tp fr a t w o) : m_ps tp a t + m_res gb tp a ≤ tp + 2 := by
  have hps := hP.ps
  have g := m_end_ge (m_kS_st gb tp) a
  unfold m_res
  split
  · rename_i hc
    have hl := m_lxE_le (gb := gb) hc.1
    rcases hP.2.2.2.2.1 with z | z
    · omega
    · unfold m_ps
      rw [if_neg z.1]
      omega
  · omega
/-- one cell that is no string and not the object's has changed -/
theorem m_P.oth {v ci : Nat} {G : List Value} (hP : m_P e h q q8 gb F tp fr a t w o) (fr' : ∀ (k : Nat) (x : ab_E), h[k]? = some x → k ≠ v → h'[k]? = some x) (hv : h[v]? = some (.inr (ci, G))) (h3 : ci ≠ 3) (h9 : ci ≠ 9) : m_P e h' q q8 gb F tp fr a t w o := by
  obtain ⟨⟨⟨hq, hl, f1, f2, f6, f7, f8, f9, f10, f11, h8, htp⟩, -⟩, hk, ⟨qs, qk, sf, kf, c1, c2, c3, c4, c5, c6⟩, p⟩ := hP
  exact ⟨⟨⟨fr' _ _ hq (x_neq hq hv (by simp; omega)), hl, f1, f2, f6, f7, f8, f9, f10, f11, fr' _ _ h8 (x_neq h8 hv (by simp)), htp⟩, fun _ _ => rfl, fun _ _ hk _ => hk⟩, hk.kept fr' hv h9, ⟨qs, qk, sf, kf, c1, c2, fr' _ _ c3 (x_neq c3 hv (by simp)), fr' _ _ c4 (x_neq c4 hv (by simp)), c5, c6⟩, p⟩
/-- all cells of an earlier heap have stayed, and all strings -/
theorem m_P.mv {fr0 a0 c z : Nat} {t0 o0 : Int32} {w0 : Value} (hP : m_P e h q q8 gb F tp fr a t w o) (hP0 : m_P e h0 q q8 gb F0 tp fr0 a0 t0 w0 o0) (hN : m_N h0 q F0 c z h F) (k1 : ∀ (k : Nat) (x : ab_E), h[k]? = some x → k < h0.length → h'[k]? = some x) (k2 : ∀ (k : Nat) (G : List Value), h[k]? = some (.inr (9, G)) → h'[k]? = some (.inr (9, G))) (k3 : ∀ (k n : Nat) (f : Nat → Value), h[k]? = some (.inl (0, n, f)) → h'[k]? = some (.inl (0, n, f))) : m_P e h' q q8 gb F tp fr a t w o := by
  obtain ⟨⟨⟨hq, hl, f1, f2, f6, f7, f8, f9, f10, f11, h8, htp⟩, -⟩, ⟨y1, y2, y3⟩, ⟨qs, qk, sf, kf, c1, c2, c3, c4, c5, c6⟩, p⟩ := hP
  obtain ⟨⟨⟨hq0, -, -, -, -, -, -, -, -, -, h80, -⟩, -⟩, -, ⟨qs0, qk0, sf0, kf0, d1, d2, d3, d4, -, -⟩, -⟩ := hP0
  have e1 : qs = qs0 := by
    have := (hN.1 4 (by omega)).symm.trans c1
    rw [d1] at this
    cases this
    rfl
  have e2 : qk = qk0 := by
    have := (hN.1 5 (by omega)).symm.trans c2
    rw [d2] at this
    cases this
    rfl
  subst e1 e2
  refine ⟨⟨⟨k1 _ _ hq (x_lt hq0), hl, f1, f2, f6, f7, f8, f9, f10, f11, k1 _ _ h8 (x_lt h80), htp⟩, fun _ _ => rfl, fun _ _ hk _ => hk⟩, ⟨?_, ?_, y3⟩, ⟨qs, qk, sf, kf, c1, c2, k1 _ _ c3 (x_lt d3), k1 _ _ c4 (x_lt d4), c5, c6⟩, p⟩
  · rcases y1 with z | ⟨z, n, y⟩
    · exact Or.inl z
    · exact Or.inr ⟨z, n, y.by k2 k3⟩
  · rcases y2 with z | ⟨n, y⟩
    · exact Or.inl z
    · exact Or.inr ⟨n, y.by k2 k3⟩
end XVL
/-- room for the rest of the tape -/
def m_rm (e : xE) (h : ab_H) (gb : Nat → Int32) (tp fr a : Nat) (t : Int32) : Prop := 8 * h.length + 66 * (tp + 2 - m_ps tp a t) + 56 * (tp - fr) + 5000 ≤ 8 * e.2.2.2.1 + 33 * m_res gb tp a ∧ ab_sz h + 58 * (tp + 2 - m_ps tp a t) + 27 * (tp - fr) + 70000 ≤ e.2.2.2.2.1 + 29 * m_res gb tp a ∧ e.2.2.2.2.2 ≤ h.length
/-- how value ends -/
def m_VN (e : xE) (h : ab_H) (q q8 : Nat) (gb : Nat → Int32) (F : List Value) (tp fr a : Nat) (t : Int32) (o : Nat) (v : Option Value) (h' : ab_H) : Prop := ∃ (b s fr' a' : Nat) (F' : List Value) (t' : Int32) (w' : Value) (c z : Nat), v = some (.ref b) ∧ m_P e h' q q8 gb F' tp fr' a' t' w' (nI o) ∧ m_T (60 - o + 1) e h' h.length h'.length b s ∧ fr < fr' ∧ s + 1 ≤ 2 * (fr' - fr) ∧ m_ps tp a t ≤ m_ps tp a' t' ∧ m_N h q F c z h' F' ∧ c + 33 * m_res gb tp a + 24 ≤ 66 * (m_ps tp a' t' - m_ps tp a t) + 56 * (fr' - fr) ∧ z + 29 * m_res gb tp a + 12 ≤ 58 * (m_ps tp a' t' - m_ps tp a t) + 27 * (fr' - fr)
def m_VE (e : xE) (h : ab_H) (q q8 : Nat) (gb : Nat → Int32) (F : List Value) (tp fr a : Nat) (t : Int32) (ce xq : Nat) (h' : ab_H) : Prop := ∃ c z, m_Ex e h q q8 gb F tp c z ce xq h' ∧ c + 33 * m_res gb tp a ≤ 66 * (tp + 2 - m_ps tp a t) + 56 * (tp - fr) + 8 ∧ z + 29 * m_res gb tp a ≤ 58 * (tp + 2 - m_ps tp a t) + 27 * (tp - fr) + 6
/-- how braces ends -/
def m_BN (e : xE) (h : ab_H) (q q8 : Nat) (gb : Nat → Int32) (F : List Value) (tp fr a : Nat) (t : Int32) (o : Nat) (v : Option Value) (h' : ab_H) : Prop := ∃ (b s fr' a' : Nat) (F' : List Value) (t' : Int32) (w' : Value) (c z : Nat), v = some (.ref b) ∧ m_P e h' q q8 gb F' tp fr' a' t' w' (nI o) ∧ m_T (60 - o + 1 + 1) e h' h.length h'.length b s ∧ fr ≤ fr' ∧ s ≤ 1 + 2 * (fr' - fr) ∧ m_ps tp a t ≤ m_ps tp a' t' ∧ m_N h q F c z h' F' ∧ c ≤ 66 * (m_ps tp a' t' - m_ps tp a t) + 56 * (fr' - fr) + 32 ∧ z ≤ 58 * (m_ps tp a' t' - m_ps tp a t) + 27 * (fr' - fr) + 15
def m_BE (e : xE) (h : ab_H) (q q8 : Nat) (gb : Nat → Int32) (F : List Value) (tp fr a : Nat) (t : Int32) (ce xq : Nat) (h' : ab_H) : Prop := ∃ c z, m_Ex e h q q8 gb F tp c z ce xq h' ∧ c ≤ 66 * (tp + 2 - m_ps tp a t) + 56 * (tp - fr) + 40 ∧ z ≤ 58 * (tp + 2 - m_ps tp a t) + 27 * (tp - fr) + 21
/-- value's promise, for what is left of the tape; braces' -/
def m_VC (e : xE) (q q8 : Nat) (gb : Nat → Int32) (tp N : Nat) : Prop := ∀ (d o fr a : Nat) (F : List Value) (t : Int32) (w : Value) (h : ab_H), m_P e h q q8 gb F tp fr a t w (nI o) → m_rm e h gb tp fr a t → o ≤ 60 → tp - fr < N → xT e (d + 2 * (60 - o) + 14) 30 0 [(0, .ref q)] [] h (x_Q (m_VN e h q q8 gb F tp fr a t o) (m_VE e h q q8 gb F tp fr a t))
def m_BC (e : xE) (q q8 : Nat) (gb : Nat → Int32) (tp N : Nat) : Prop := ∀ (d o fr a : Nat) (F : List Value) (t : Int32) (w : Value) (h : ab_H) (p : Int32), m_P e h q q8 gb F tp fr a t w (nI o) → 8 * h.length + 66 * (tp + 2 - m_ps tp a t) + 56 * (tp - fr) + 5056 ≤ 8 * e.2.2.2.1 → ab_sz h + 58 * (tp + 2 - m_ps tp a t) + 27 * (tp - fr) + 70027 ≤ e.2.2.2.2.1 → e.2.2.2.2.2 ≤ h.length → o ≤ 60 → tp - fr < N → xT e (d + 2 * (61 - o) + 13) 32 0 [(0, .ref q), (1, .int p)] [] h (x_Q (m_BN e h q q8 gb F tp fr a t o) (m_BE e h q q8 gb F tp fr a t))
section XVM
variable {e : xE} {q q8 tp fr a : Nat} {gb : Nat → Int32} {h h' : ab_H} {F F' : List Value} {t o : Int32} {w : Value}
theorem m_rm.x (hP : m_P e h q q8 gb F tp fr a t w o) (hr : m_rm e h gb tp fr a t) : 8 * h.length + 5000 ≤ 8 * e.2.2.2.1 ∧ ab_sz h + 70000 ≤ e.2.2.2.2.1 ∧ e.2.2.2.2.2 ≤ h.length := by
  have := m_res_le hP
  obtain ⟨h1, h2⟩ := hr
  exact ⟨by omega, by omega⟩
/-- thrown before a token was passed -/
theorem m_VE.now {c z ce xq : Nat} (hP : m_P e h q q8 gb F tp fr a t w o) (k : m_Ex e h q q8 gb F tp c z ce xq h') (hc : c ≤ 8) (hz : z ≤ 6) : m_VE e h q q8 gb F tp fr a t ce xq h' := by
  have := m_res_le hP
  exact ⟨c, z, k, by omega, by omega⟩
end XVM
