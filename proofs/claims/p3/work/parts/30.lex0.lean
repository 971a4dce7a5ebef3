/-! the reference: what its lexer keeps; builders in use -/
/-- a builder q, made since h0; qm the one old cell that may have changed -/
def j_SI (h0 h : ab_H) (qm q qv : Nat) (fs : List Value) (n c : Nat) (f : Nat → Int32) : Prop := j_SB h q qv fs n c f ∧ h0.length ≤ q ∧ h0.length ≤ qv ∧ (∀ (k : Nat) (x : ab_E), h0[k]? = some x → k ≠ qm → h[k]? = some x) ∧ (∃ g, h.length = h0.length + 2 + g ∧ 16 * (g + 1) ≤ n) ∧ (n = 16 ∨ n ≤ 2 * c) ∧ ab_sz h + 12 ≤ ab_sz h0 + 2 * n
/-- room for one token's text -/
def x_rm (e : xE) (h : ab_H) : Prop := h.length + 600 ≤ e.2.2.2.1 ∧ ab_sz h + 60000 ≤ e.2.2.2.2.1 ∧ e.2.2.2.2.2 ≤ h.length
section XI
variable {e : xE} {d qm q qv n c : Nat} {fs : List Value} {f : Nat → Int32} {h0 h h1 : ab_H} {y : Int32}
theorem j_SI.upd {x : ab_E} (hI : j_SI h0 h qm q qv fs n c f) (hm : qm < h0.length) (u : x_up h qm h1 x) : j_SI h0 h1 qm q qv fs n c f := by
  obtain ⟨⟨hq, hl, f0, f1, f3, hB, hne, hc, hn⟩, b1, b2, b3, ⟨g, b4, b5⟩, b6, b7⟩ := hI
  exact ⟨⟨(u.2.1 _ (by omega)).trans hq, hl, f0, f1, f3, ⟨(u.2.1 _ (by omega)).trans hB.1, hB.2⟩, hne, hc, hn⟩, b1, b2, fun k x hk hn => (u.2.1 k hn).trans (b3 k x hk hn), ⟨g, u.2.2.1.trans b4, b5⟩, b6, by rw [u.2.2.2]; exact b7⟩
/-- append, in use -/
theorem j_appI (hI : j_SI h0 h qm q qv fs n c f) (hc : c ≤ 4400) (hr : x_rm e h0) (hy : y ≤ 255) : xT e (d + 5) 83 0 [(0, .ref q), (1, .int y)] [] h (fun o h' => ∃ v, o = .inl v ∧ v = some (.ref q) ∧ ∃ qv' fs' n' f', j_SI h0 h' qm q qv' fs' n' (c + 1) f' ∧ ∀ (k : Nat) (x : ab_E), h[k]? = some x → k < h0.length → h'[k]? = some x) := by
  obtain ⟨hS, b1, b2, b3, ⟨g, b4, b5⟩, b6, b7⟩ := hI
  obtain ⟨r1, r2⟩ := hr
  have hcn : c ≤ n := hS.2.2.2.2.2.2.2.1
  refine (j_append hS (by omega) hy (by omega) (by omega)).mono (fun o h' ho => ?_)
  obtain ⟨v, e1, e2, qv', fs', n', f', hS', fr, gr⟩ := ho
  refine ⟨v, e1, e2, qv', fs', n', f', ?_, fun k x hk hl => fr k x hk (by omega) (by omega)⟩
  rcases gr with ⟨g1, g2, g3, g4⟩ | ⟨g0, g1, g2, g3, g4⟩
  · subst g1 g2
    exact ⟨hS', b1, b2, fun k x hk hn => fr k x (b3 k x hk hn) (by have := x_lt hk; omega) (by have := x_lt hk; omega), ⟨g, by omega, b5⟩, by omega, by omega⟩
  · subst g0 g2
    exact ⟨hS', b1, by omega, fun k x hk hn => fr k x (b3 k x hk hn) (by have := x_lt hk; omega) (by have := x_lt hk; omega), ⟨g + 1, by omega, by omega⟩, by omega, by omega⟩
/-- toString, in use -/
theorem j_tsI (hI : j_SI h0 h qm q qv fs n c f) (hc : c ≤ 4400) (hr : x_rm e h0) : xT e (d + 5) 84 0 [(0, .ref q)] [] h (fun o h' => ∃ v, o = .inl v ∧ ∃ s, v = some (.ref s) ∧ j_str e h' (.ref s) c ∧ (∀ (k : Nat) (x : ab_E), h[k]? = some x → h'[k]? = some x) ∧ 8 * h'.length ≤ 8 * h0.length + 32 + c ∧ h0.length ≤ h'.length ∧ ab_sz h' ≤ ab_sz h0 + 24 + 5 * c) := by
  obtain ⟨hS, b1, b2, b3, ⟨g, b4, b5⟩, b6, b7⟩ := hI
  obtain ⟨r1, r2⟩ := hr
  have hcn : c ≤ n := hS.2.2.2.2.2.2.2.1
  refine (j_toString hS (by omega) (by omega) (by omega)).mono (fun o h' ho => ?_)
  obtain ⟨v, e1, e2, g1, g2, g3, g4⟩ := ho
  exact ⟨v, e1, _, e2, g1, g2, by omega, by omega, by omega⟩
/-- a builder that is given up -/
theorem j_SI.cost (hI : j_SI h0 h qm q qv fs n c f) : 8 * h.length ≤ 8 * h0.length + 32 + c ∧ h0.length ≤ h.length ∧ ab_sz h ≤ ab_sz h0 + 24 + 5 * c := by
  obtain ⟨hS, b1, b2, b3, ⟨g, b4, b5⟩, b6, b7⟩ := hI
  exact ⟨by omega, by omega, by omega⟩
/-- a new builder -/
theorem j_SI.of {x : ab_E} {F : List Value} {h2 : ab_H} (hm : qm < h0.length ∨ True) (w : x_nw h0 h1 x) (hz : ab_sz1 x = 4) (hS : j_SB h2 h0.length h1.length F 16 0 (fun _ => 0)) (fr : ∀ (k : Nat) (x : ab_E), h1[k]? = some x → k ≠ h0.length → h2[k]? = some x) (hl : h2.length = h1.length + 1) (hs : ab_sz h2 = ab_sz h1 + 16) : j_SI h0 h2 qm h0.length h1.length F 16 0 (fun _ => 0) := by
  obtain ⟨w1, w2, w3, w4⟩ := w
  exact ⟨hS, Nat.le_refl _, by omega, fun k x hk _ => fr k x (w2 _ _ hk) (by have := x_lt hk; omega), ⟨0, by omega, by omega⟩, Or.inl rfl, by omega⟩
end XI
/-- the lexer's state: q the object, as it was F0 in h0; tp bytes on the tape; the token's kind, beginning and word; the place -/
def m_X (h0 h : ab_H) (q q8 : Nat) (gb : Nat → Int32) (F0 F : List Value) (tp fr a : Nat) (t : Int32) (w : Value) : Prop :=
  (h[q]? = some (.inr (3, F)) ∧ F.length = 21 ∧ F[1]? = some (.ref q8) ∧ F[2]? = some (.int (nI tp)) ∧ F[6]? = some (.int t) ∧ F[7]? = some (.int (nI fr)) ∧ (∃ z, F[8]? = some (.int z)) ∧ (∃ n, F[9]? = some (.long n)) ∧ F[10]? = some w ∧ F[11]? = some (.int (nI a)) ∧ h[q8]? = some (.inl (0, 4096, fun j => .int (gb j))) ∧ tp ≤ 4096) ∧ (∀ i, (i < 6 ∨ 11 < i) → F[i]? = F0[i]?) ∧ (∀ (k : Nat) (x : ab_E), h0[k]? = some x → k ≠ q → h[k]? = some x)
/-- what a token's kind says of its word -/
def m_ok (e : xE) (h : ab_H) (t : Int32) (w : Value) : Prop := ((t = 0 ∨ t = 1 ∨ t = 5) ∨ ((t = 2 ∨ t = 3 ∨ t = 4 ∨ t = 6 ∨ t = 7 ∨ t = 8 ∨ t = 9) ∧ ∃ n, j_str e h w n)) ∧ (w = .null ∨ ∃ n, j_str e h w n) ∧ (t = 4 → ∃ s, w = .ref s)
/-- an old string -/
def j_old (e : xE) (v : Value) (n : Nat) : Prop := ∃ (w wr : UInt32) (f : Nat → Int32), v = .float w ∧ x_oo w.toNat = some (9, [.float wr, .int 0]) ∧ x_oa e.2.1 e.2.2.1 wr.toNat = some (.byte, n, fun j => .int (f j)) ∧ n ≤ 20000
theorem j_old.str {e : xE} {v : Value} {n : Nat} (k : j_old e v n) (h : ab_H) : j_str e h v n := by
  obtain ⟨w, wr, f, h1, h2, h3, h4⟩ := k
  exact ⟨_, _, f, Or.inr ⟨w, h1, h2⟩, rfl, rfl, Or.inr ⟨wr, rfl, h3⟩, h4, fun q hq => by cases hq⟩
/-- the object's two rows of words -/
def m_C (e : xE) (h : ab_H) (F : List Value) : Prop := ∃ (qs qk : Nat) (sf kf : Nat → Value), F[4]? = some (.ref qs) ∧ F[5]? = some (.ref qk) ∧ h[qs]? = some (.inl (3, 12, sf)) ∧ h[qk]? = some (.inl (3, 35, kf)) ∧ (∀ k, k < 12 → ∃ n, 0 < n ∧ n ≤ 3 ∧ j_old e (sf k) n) ∧ ∀ k, k < 35 → ∃ n, j_old e (kf k) n
section XX
variable {e : xE} {h0 h h' : ab_H} {q q8 : Nat} {gb : Nat → Int32} {F0 F F' : List Value} {tp fr a : Nat} {t : Int32} {w : Value}
theorem m_X.C (hX : m_X h0 h q q8 gb F0 F tp fr a t w) (hq0 : h0[q]? = some (.inr (3, F0))) (hC : m_C e h0 F0) : m_C e h F := by
  obtain ⟨qs, qk, sf, kf, c1, c2, c3, c4, c5, c6⟩ := hC
  exact ⟨qs, qk, sf, kf, (hX.2.1 4 (by omega)).trans c1, (hX.2.1 5 (by omega)).trans c2, hX.2.2 _ _ c3 (x_neq c3 hq0 (by simp)), hX.2.2 _ _ c4 (x_neq c4 hq0 (by simp)), c5, c6⟩
theorem m_X.S (hX : m_X h0 h q q8 gb F0 F tp fr a t w) : m_S h q q8 gb F tp a := by
  obtain ⟨⟨hq, hl, f1, f2, f6, f7, f8, f9, f10, f11, h8, htp⟩, -⟩ := hX
  exact ⟨hq, hl, f1, f2, f11, h8, x_neq hq h8 (by simp), htp⟩
theorem m_X.lt (hX : m_X h0 h q q8 gb F0 F tp fr a t w) : tp ≤ 4096 := hX.1.2.2.2.2.2.2.2.2.2.2.2
/-- the object's own fields have changed, within the lexer's -/
theorem m_X.upd {b fr' a' : Nat} {t' : Int32} {w' : Value} (hX : m_X h0 h q q8 gb F0 F tp fr a t w) (u : x_up h q h' (.inr (3, F'))) (hl : F'.length = F.length) (hb : b = 6 ∨ b = 7 ∨ b = 8 ∨ b = 9 ∨ b = 10 ∨ b = 11) (fo : ∀ i, i ≠ b → F'[i]? = F[i]?)
    (n6 : F'[6]? = some (.int t')) (n7 : F'[7]? = some (.int (nI fr'))) (n8 : ∃ z, F'[8]? = some (.int z)) (n9 : ∃ n, F'[9]? = some (.long n)) (n10 : F'[10]? = some w') (n11 : F'[11]? = some (.int (nI a'))) : m_X h0 h' q q8 gb F0 F' tp fr' a' t' w' := by
  obtain ⟨⟨hq, hl0, f1, f2, f6, f7, f8, f9, f10, f11, h8, htp⟩, rest, fr0⟩ := hX
  exact ⟨⟨u.1, hl.trans hl0, (fo 1 (by omega)).trans f1, (fo 2 (by omega)).trans f2, n6, n7, n8, n9, n10, n11, (u.2.1 _ (x_neq h8 hq (by simp))).trans h8, htp⟩, fun i hi => (fo i (by omega)).trans (rest i hi), fun k x hk hn => (u.2.1 k hn).trans (fr0 k x hk hn)⟩
/-- cells have come -/
theorem m_X.ext (hX : m_X h0 h q q8 gb F0 F tp fr a t w) (x : ∀ (k : Nat) (x : ab_E), h[k]? = some x → h'[k]? = some x) : m_X h0 h' q q8 gb F0 F tp fr a t w := by
  obtain ⟨⟨hq, hl0, f1, f2, f6, f7, f8, f9, f10, f11, h8, htp⟩, rest, fr0⟩ := hX
  exact ⟨⟨x _ _ hq, hl0, f1, f2, f6, f7, f8, f9, f10, f11, x _ _ h8, htp⟩, rest, fun k y hk hn => x _ _ (fr0 k y hk hn)⟩
/-- a cell that isn't the object's own has changed, or some: all below n stayed -/
theorem m_X.low {n : Nat} (hX : m_X h0 h q q8 gb F0 F tp fr a t w) (hq : q < n) (h8 : q8 < n) (hn : h0.length ≤ n) (x : ∀ (k : Nat) (x : ab_E), h[k]? = some x → k < n → h'[k]? = some x) : m_X h0 h' q q8 gb F0 F tp fr a t w := by
  obtain ⟨⟨hq', hl0, f1, f2, f6, f7, f8, f9, f10, f11, h8', htp⟩, rest, fr0⟩ := hX
  exact ⟨⟨x _ _ hq' hq, hl0, f1, f2, f6, f7, f8, f9, f10, f11, x _ _ h8' h8, htp⟩, rest, fun k y hk hn => x _ _ (fr0 k y hk hn) (by have := x_lt hk; omega)⟩
end XX
theorem x_by255 {gb : Nat → Int32} {tp k : Nat} (h : k < tp) : ((x_by gb tp k).toUInt32 % 65536).toInt32 ≤ 255 := by
  unfold x_by
  rw [if_pos h, x_i2c (x_and255 _).1 (x_and255 _).2]
  exact (x_and255 _).2
theorem x_byIn {gb : Nat → Int32} {tp k : Nat} (h : ¬ x_by gb tp k = -1) : k < tp := by
  by_cases hk : k < tp
  · exact hk
  · unfold x_by at h; rw [if_neg hk] at h; exact absurd rfl h
theorem x_b01 {c : Prop} [Decidable c] (h : ¬ ((if c then (1 : Int32) else 0) = 0)) : c := by
  by_cases hc : c
  · exact hc
  · rw [if_neg hc] at h; exact absurd rfl h
theorem x_b00 {c : Prop} [Decidable c] (h : (if c then (1 : Int32) else 0) = 0) : ¬ c := fun hc => by
  rw [if_pos hc] at h; exact absurd h (by decide)
