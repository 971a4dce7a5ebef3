/-! the reference: braces, its loops -/
theorem m_W.add {e : xE} {k l u v : Nat} {h h' : ab_H} {G G' : List Value} {qp qn ql c n qp' qn' ql' n' b sb li ui kd s : Nat} {pf nf pf' nf' : Nat → Value} {lf lf' : Nat → Int32} (hW : m_W k e h l u v G qp qn ql c n pf nf lf s) (hu : u = h.length) (g0 : G[0]? = some (.int (nI kd))) (hkd : kd ≤ 12 ∧ kd ≠ 8) (hT : m_T k e h li ui b sb) (i1 : l ≤ li ∧ ui ≤ u) (i2 : (v < li ∨ ui ≤ v) ∧ (qp < li ∨ ui ≤ qp) ∧ (qn < li ∨ ui ≤ qn) ∧ (ql < li ∨ ui ≤ ql))
    (hV : m_V e h' v G' qp' qn' ql' (c + 1) n' pf' nf' lf') (u1 : ∀ i, i < c → pf' i = pf i ∧ nf' i = nf i) (u2 : pf' c = .ref b) (u4 : ∀ i, i < 5 → G'[i]? = G[i]?) (u5 : ∀ (k : Nat) (x : ab_E), h[k]? = some x → k ≠ v → k ≠ qp → k ≠ qn → k ≠ ql → h'[k]? = some x) (hl : h.length ≤ h'.length)
    (hq : (qp' = qp ∧ qn' = qn ∧ ql' = ql) ∨ ((h.length ≤ qp' ∧ qp' < h'.length) ∧ (h.length ≤ qn' ∧ qn' < h'.length) ∧ (h.length ≤ ql' ∧ ql' < h'.length))) : m_W k e h' l h'.length v G' qp' qn' ql' (c + 1) n' pf' nf' lf' (s + (1 + sb)) := by
  obtain ⟨⟨hV0, ⟨kd', v1, v2, v2', tx, v3, v4, v5⟩, ⟨p6, v6⟩, ⟨z7, v7⟩, b1, b2, b3, b4⟩, ss, ch, hs⟩ := hW
  obtain ⟨ha, la, gs, ⟨hp, hn, hl'⟩, cs, cl, cn⟩ := hV0
  have ekd : kd' = kd := by
    rw [g0] at v1
    have z : nI kd = nI kd' := by injection v1 with z; injection z
    exact ((nI_eq (by omega) (by omega)).mp z).symm
  subst ekd
  have st1 : ∀ (k : Nat) (G : List Value), h[k]? = some (.inr (9, G)) → h'[k]? = some (.inr (9, G)) := fun k G hk => u5 k _ hk (x_neq hk ha (by simp)) (x_neq hk hp (by simp)) (x_neq hk hn (by simp)) (x_neq hk hl' (by simp))
  have st2 : ∀ (k n : Nat) (f : Nat → Value), h[k]? = some (.inl (0, n, f)) → h'[k]? = some (.inl (0, n, f)) := fun k n f hk => u5 k _ hk (x_neq hk ha (by simp)) (x_neq hk hp (by simp)) (x_neq hk hn (by simp)) (x_neq hk hl' (by simp))
  have old : ∀ li ui b s, m_T k e h li ui b s → (v < li ∨ ui ≤ v) → (qp < li ∨ ui ≤ qp) → (qn < li ∨ ui ≤ qn) → (ql < li ∨ ui ≤ ql) → m_T k e h' li ui b s := fun li ui b s hT n1 n2 n3 n4 => m_T.kept _ _ _ _ _ ⟨fun j x hj l u => u5 j x hj (by omega) (by omega) (by omega) (by omega), st1, st2⟩ hT
  refine ⟨⟨hV, ⟨kd', (u4 0 (by omega)).trans v1, v2, fun z => absurd z hkd.2, tx, (u4 4 (by omega)).trans v3, ?_, fun z => ?_⟩, ⟨p6, (u4 1 (by omega)).trans v6⟩, ⟨z7, (u4 3 (by omega)).trans v7⟩, ⟨by omega, by omega⟩, ?_, ?_, ?_⟩, fun i => if i = c then sb else ss i, fun i hi => ?_, ?_⟩
  · rcases v4 with z | ⟨m, z⟩
    · exact Or.inl z
    · exact Or.inr ⟨m, z.by st1 st2⟩
  · obtain ⟨m, y⟩ := v5 z
    exact ⟨m, y.by st1 st2⟩
  · rcases hq with z | z <;> omega
  · rcases hq with z | z <;> omega
  · rcases hq with z | z <;> omega
  · by_cases hic : i = c
    · subst hic
      refine ⟨b, li, ui, u2, by show m_T k e h' li ui b (if i = i then sb else ss i); rw [if_pos rfl]; exact old li ui b sb hT i2.1 i2.2.1 i2.2.2.1 i2.2.2.2, i1.1, by omega, i2.1, ?_, ?_, ?_⟩
      · rcases hq with z | z <;> omega
      · rcases hq with z | z <;> omega
      · rcases hq with z | z <;> omega
    · obtain ⟨b', li', ui', z1, z2, z3, z4, z5, z6, z7, z8⟩ := ch i (by omega)
      refine ⟨b', li', ui', (u1 i (by omega)).1.trans z1, by show m_T k e h' li' ui' b' (if i = c then sb else ss i); rw [if_neg hic]; exact old li' ui' b' _ z2 z5 z6 z7 z8, z3, by omega, z5, ?_, ?_, ?_⟩
      · rcases hq with z | z <;> omega
      · rcases hq with z | z <;> omega
      · rcases hq with z | z <;> omega
  · have e1 : m_sum (fun i => if i = c then sb else ss i) c = m_sum ss c := m_sum_congr c (fun i hi => by rw [if_neg (by omega)])
    show 1 + (m_sum (fun i => if i = c then sb else ss i) c + (1 + (if c = c then sb else ss c))) ≤ s + (1 + sb)
    rw [e1, if_pos rfl]
    omega
/-- in the middle of braces: v the Value in the making; h0, fr0 .. how braces began -/
def m_LI (e : xE) (h0 : ab_H) (q q8 : Nat) (gb : Nat → Int32) (F0 : List Value) (tp fr0 a0 : Nat) (t0 : Int32) (o v kd : Nat) (h : ab_H) (F : List Value) (fr a : Nat) (t : Int32) (w : Value) : Prop := m_P e h q q8 gb F tp fr a t w (nI o) ∧ (kd ≤ 12 ∧ kd ≠ 8) ∧ ∃ (G : List Value) (qp qn ql c n : Nat) (pf nf : Nat → Value) (lf : Nat → Int32) (s C Z : Nat), m_W (60 - o + 1) e h h0.length h.length v G qp qn ql c n pf nf lf s ∧ G[0]? = some (.int (nI kd)) ∧ (n = 2 ∨ n ≤ 2 * c) ∧ 0 < n ∧ c ≤ fr - fr0 ∧ s ≤ 1 + 2 * (fr - fr0) ∧ fr0 ≤ fr ∧ m_ps tp a0 t0 ≤ m_ps tp a t ∧ m_N h0 q F0 C Z h F ∧ ((c = 0 ∧ n = 2 ∧ a = a0 ∧ fr = fr0 ∧ t = t0 ∧ C ≤ 33 * m_res gb tp a0 + 32 ∧ Z ≤ 29 * m_res gb tp a0 + 15) ∨ (C ≤ 66 * (m_ps tp a t - m_ps tp a0 t0) + 56 * (fr - fr0) + 32 ∧ Z + 12 * c + 12 ≤ 58 * (m_ps tp a t - m_ps tp a0 t0) + 27 * (fr - fr0) + 15 + 6 * n))
