/-! the reference: trees of Values -/
def m_sum (ss : Nat → Nat) : Nat → Nat
  | 0 => 0
  | c + 1 => m_sum ss c + (1 + ss c)
theorem m_sum_congr {ss rr : Nat → Nat} : ∀ (c : Nat), (∀ i, i < c → ss i = rr i) → m_sum ss c = m_sum rr c := by
  intro c
  induction c with
  | zero => intro _; rfl
  | succ c ih => intro h; unfold m_sum; rw [ih (fun i hi => h i (by omega)), h c (by omega)]
/-- a Value's own: kind, text, where its cells lie -/
def m_V1 (e : xE) (h : ab_H) (l u a : Nat) (G : List Value) (qp qn ql c n : Nat) (pf nf : Nat → Value) (lf : Nat → Int32) : Prop := m_V e h a G qp qn ql c n pf nf lf ∧ (∃ kd, G[0]? = some (.int (nI kd)) ∧ kd ≤ 12 ∧ (kd = 8 → c = 1) ∧ ∃ tx, G[4]? = some tx ∧ (tx = .null ∨ ∃ m, j_str e h tx m) ∧ ((kd = 5 ∨ kd = 6 ∨ kd = 7) → ∃ m, j_str e h tx m)) ∧ (∃ p, G[1]? = some (.int p)) ∧ (∃ z, G[3]? = some (.long z)) ∧ ((l ≤ a ∧ a < u) ∧ (l ≤ qp ∧ qp < u) ∧ (l ≤ qn ∧ qn < u) ∧ (l ≤ ql ∧ ql < u))
/-- a whole tree of height k at most, of s nodes at most, in the cells l .. u -/
def m_T : Nat → xE → ab_H → Nat → Nat → Nat → Nat → Prop
  | 0, _, _, _, _, _, _ => False
  | k + 1, e, h, l, u, a, s => ∃ G qp qn ql c n pf nf lf ss, m_V1 e h l u a G qp qn ql c n pf nf lf ∧ (∀ i, i < c → ∃ b li ui, pf i = .ref b ∧ m_T k e h li ui b (ss i) ∧ l ≤ li ∧ ui ≤ u) ∧ 1 + m_sum ss c ≤ s
/-- the cells l .. u stay, and all strings -/
def m_kp (h h' : ab_H) (l u : Nat) : Prop := (∀ (k : Nat) (x : ab_E), h[k]? = some x → l ≤ k → k < u → h'[k]? = some x) ∧ (∀ (k : Nat) (F : List Value), h[k]? = some (.inr (9, F)) → h'[k]? = some (.inr (9, F))) ∧ ∀ (k n : Nat) (f : Nat → Value), h[k]? = some (.inl (0, n, f)) → h'[k]? = some (.inl (0, n, f))
theorem m_kp.sub {h h' : ab_H} {l u l' u' : Nat} (k : m_kp h h' l u) (h1 : l ≤ l') (h2 : u' ≤ u) : m_kp h h' l' u' := ⟨fun j x hj a b => k.1 j x hj (by omega) (by omega), k.2⟩
theorem m_kp.fr {h h' : ab_H} {q : Nat} {F : List Value} (fr : ∀ (k : Nat) (x : ab_E), h[k]? = some x → k ≠ q → h'[k]? = some x) (hq : h[q]? = some (.inr (3, F))) {l u : Nat} (hl : q < l ∨ u ≤ q) : m_kp h h' l u :=
  ⟨fun k x hk a b => fr k x hk (by omega), fun k G hk => fr k _ hk (x_neq hk hq (by simp)), fun k n f hk => fr k _ hk (x_neq hk hq (by simp))⟩
section XTR
variable {e : xE} {h h' : ab_H} {l u a qp qn ql c n : Nat} {G : List Value} {pf nf : Nat → Value} {lf : Nat → Int32}
theorem m_kp.str {v : Value} {m : Nat} (k : m_kp h h' l u) (z : j_str e h v m) : j_str e h' v m := z.by k.2.1 k.2.2
theorem m_V.kept (k : m_kp h h' l u) (hV : m_V e h a G qp qn ql c n pf nf lf) (b1 : l ≤ a ∧ a < u) (b2 : l ≤ qp ∧ qp < u) (b3 : l ≤ qn ∧ qn < u) (b4 : l ≤ ql ∧ ql < u) (bc : ∀ i, i < c → ∀ (b : Nat), pf i = .ref b → l ≤ b ∧ b < u) : m_V e h' a G qp qn ql c n pf nf lf := by
  obtain ⟨ha, la, gs, ⟨hp, hn, hl⟩, cs, ch, cn⟩ := hV
  refine ⟨k.1 _ _ ha b1.1 b1.2, la, gs, ⟨k.1 _ _ hp b2.1 b2.2, k.1 _ _ hn b3.1 b3.2, k.1 _ _ hl b4.1 b4.2⟩, cs, fun i hi => ?_, fun i hi => ?_⟩
  · obtain ⟨b, F, z1, z2⟩ := ch i hi
    have := bc i hi b z1
    exact ⟨b, F, z1, k.1 _ _ z2 this.1 this.2⟩
  · rcases cn i hi with z | ⟨m, z⟩
    · exact Or.inl z
    · exact Or.inr ⟨m, k.str z⟩
theorem m_T.root {k b s : Nat} (hT : m_T k e h l u b s) : (l ≤ b ∧ b < u) ∧ ∃ F, h[b]? = some (.inr (11, F)) := by
  cases k with
  | zero => exact absurd hT id
  | succ k =>
    obtain ⟨G, qp, qn, ql, c, n, pf, nf, lf, ss, ⟨hV, -, -, -, b1, -⟩, -⟩ := hT
    exact ⟨b1, _, hV.1⟩
theorem m_T.wid {k s l' u' : Nat} (hT : m_T k e h l u a s) (h1 : l' ≤ l) (h2 : u ≤ u') : m_T k e h l' u' a s := by
  cases k with
  | zero => exact absurd hT id
  | succ k =>
    obtain ⟨G, qp, qn, ql, c, n, pf, nf, lf, ss, ⟨hV, v1, v2, v3, b1, b2, b3, b4⟩, ch, hs⟩ := hT
    refine ⟨G, qp, qn, ql, c, n, pf, nf, lf, ss, ⟨hV, v1, v2, v3, ⟨by omega, by omega⟩, ⟨by omega, by omega⟩, ⟨by omega, by omega⟩, ⟨by omega, by omega⟩⟩, fun i hi => ?_, hs⟩
    obtain ⟨b, li, ui, z1, z2, z3, z4⟩ := ch i hi
    exact ⟨b, li, ui, z1, z2, by omega, by omega⟩
theorem m_T.kept : ∀ (k l u a s : Nat), m_kp h h' l u → m_T k e h l u a s → m_T k e h' l u a s := by
  intro k
  induction k with
  | zero => intro l u a s _ hT; exact absurd hT id
  | succ k ih =>
    intro l u a s hk hT
    obtain ⟨G, qp, qn, ql, c, n, pf, nf, lf, ss, ⟨hV, ⟨kd, v1, v2, v2', tx, v3, v4, v5⟩, v6, v7, b1, b2, b3, b4⟩, ch, hs⟩ := hT
    refine ⟨G, qp, qn, ql, c, n, pf, nf, lf, ss, ⟨hV.kept hk b1 b2 b3 b4 (fun i hi b hb => ?_), ⟨kd, v1, v2, v2', tx, v3, ?_, fun z => ?_⟩, v6, v7, b1, b2, b3, b4⟩, fun i hi => ?_, hs⟩
    · obtain ⟨b', li, ui, z1, z2, z3, z4⟩ := ch i hi
      have := z2.root.1
      rw [z1] at hb
      cases hb
      omega
    · rcases v4 with z | ⟨m, z⟩
      · exact Or.inl z
      · exact Or.inr ⟨m, hk.str z⟩
    · obtain ⟨m, y⟩ := v5 z
      exact ⟨m, hk.str y⟩
    · obtain ⟨b', li, ui, z1, z2, z3, z4⟩ := ch i hi
      exact ⟨b', li, ui, z1, ih li ui b' (ss i) (hk.sub z3 z4) z2, z3, z4⟩
/-- a leaf -/
theorem m_T.leaf {k : Nat} (hV : m_V1 e h l u a G qp qn ql 0 n pf nf lf) : m_T (k + 1) e h l u a 1 := ⟨G, qp, qn, ql, 0, n, pf, nf, lf, fun _ => 0, hV, fun i hi => absurd hi (Nat.not_lt_zero i), Nat.le_refl _⟩
theorem m_T.up {k s s' : Nat} (hT : m_T k e h l u a s) (hs : s ≤ s') : m_T k e h l u a s' := by
  cases k with
  | zero => exact absurd hT id
  | succ k =>
    obtain ⟨G, qp, qn, ql, c, n, pf, nf, lf, ss, z1, z2, z3⟩ := hT
    exact ⟨G, qp, qn, ql, c, n, pf, nf, lf, ss, z1, z2, by omega⟩
/-- a Value in the making: its children lie apart from its own cells -/
def m_W (k : Nat) (e : xE) (h : ab_H) (l u a : Nat) (G : List Value) (qp qn ql c n : Nat) (pf nf : Nat → Value) (lf : Nat → Int32) (s : Nat) : Prop := m_V1 e h l u a G qp qn ql c n pf nf lf ∧ ∃ ss, (∀ i, i < c → ∃ b li ui, pf i = .ref b ∧ m_T k e h li ui b (ss i) ∧ l ≤ li ∧ ui ≤ u ∧ (a < li ∨ ui ≤ a) ∧ (qp < li ∨ ui ≤ qp) ∧ (qn < li ∨ ui ≤ qn) ∧ (ql < li ∨ ui ≤ ql)) ∧ 1 + m_sum ss c ≤ s
theorem m_W.done {k s : Nat} (hW : m_W k e h l u a G qp qn ql c n pf nf lf s) : m_T (k + 1) e h l u a s := by
  obtain ⟨h1, ss, h2, h3⟩ := hW
  refine ⟨G, qp, qn, ql, c, n, pf, nf, lf, ss, h1, fun i hi => ?_, h3⟩
  obtain ⟨b, li, ui, z1, z2, z3, z4, -⟩ := h2 i hi
  exact ⟨b, li, ui, z1, z2, z3, z4⟩
theorem m_W.kept {k s : Nat} (hk : m_kp h h' l u) (hW : m_W k e h l u a G qp qn ql c n pf nf lf s) : m_W k e h' l u a G qp qn ql c n pf nf lf s := by
  obtain ⟨⟨hV, ⟨kd, v1, v2, v2', tx, v3, v4, v5⟩, v6, v7, b1, b2, b3, b4⟩, ss, h2, h3⟩ := hW
  refine ⟨⟨hV.kept hk b1 b2 b3 b4 (fun i hi b hb => ?_), ⟨kd, v1, v2, v2', tx, v3, ?_, fun z => ?_⟩, v6, v7, b1, b2, b3, b4⟩, ss, fun i hi => ?_, h3⟩
  · obtain ⟨b', li, ui, z1, z2, z3, z4, -⟩ := h2 i hi
    have := z2.root.1
    rw [z1] at hb
    cases hb
    omega
  · rcases v4 with z | ⟨m, z⟩
    · exact Or.inl z
    · exact Or.inr ⟨m, hk.str z⟩
  · obtain ⟨m, y⟩ := v5 z
    exact ⟨m, hk.str y⟩
  · obtain ⟨b', li, ui, z1, z2, z3, z4, z5⟩ := h2 i hi
    exact ⟨b', li, ui, z1, m_T.kept k li ui b' (ss i) (hk.sub z3 z4) z2, z3, z4, z5⟩
theorem m_W.wid {k s u' : Nat} (hW : m_W k e h l u a G qp qn ql c n pf nf lf s) (hu : u ≤ u') : m_W k e h l u' a G qp qn ql c n pf nf lf s := by
  obtain ⟨⟨hV, v1, v2, v3, b1, b2, b3, b4⟩, ss, h2, h3⟩ := hW
  refine ⟨⟨hV, v1, v2, v3, ⟨by omega, by omega⟩, ⟨by omega, by omega⟩, ⟨by omega, by omega⟩, ⟨by omega, by omega⟩⟩, ss, fun i hi => ?_, h3⟩
  obtain ⟨b', li, ui, z1, z2, z3, z4, z5⟩ := h2 i hi
  exact ⟨b', li, ui, z1, z2, z3, by omega, z5⟩
end XTR
