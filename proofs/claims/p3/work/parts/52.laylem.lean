/-! the reference: what lay keeps -/
abbrev m_AT : Type := (Nat → Value) × (Nat → Value) × (Nat → Int32) × (Nat → Int32) × (Nat → Int32) × (Nat → Int32)
def m_va (A : m_AT) : Nat → Value := A.1
def m_nb (A : m_AT) : Nat → Value := A.2.1
def m_kb (A : m_AT) : Nat → Int32 := A.2.2.1
def m_pb (A : m_AT) : Nat → Int32 := A.2.2.2.1
def m_cb (A : m_AT) : Nat → Int32 := A.2.2.2.2.1
def m_ab (A : m_AT) : Nat → Int32 := A.2.2.2.2.2
def m_E (h : ab_H) (q : Nat) (F : List Value) (nn cap : Nat) (R : Nat → Nat) (A : m_AT) : Prop := m_D h q F nn cap (R 0) (R 1) (R 2) (R 3) (R 4) (R 5) (m_va A) (m_nb A) (m_kb A) (m_pb A) (m_cb A) (m_ab A)
/-- a node that may be asked -/
def m_nd (e : xE) (h : ab_H) (A : m_AT) (i : Nat) : Prop := (∃ (b : Nat) (G : List Value) (z : Int64) (tx : Value), m_va A i = .ref b ∧ h[b]? = some (.inr (11, G)) ∧ G[3]? = some (.long z) ∧ G[4]? = some tx ∧ (6 ≤ m_kb A i → m_kb A i ≤ 8 → ∃ m, j_str e h tx m)) ∧ (m_nb A i = .null ∨ ∃ m, j_str e h (m_nb A i) m)
/-- how many of the first n nodes lie around i -/
def m_cnt (ab : Nat → Int32) (i : Nat) : Nat → Nat
  | 0 => 0
  | n + 1 => m_cnt ab i n + (if i < n ∧ ab n = nI i then 1 else 0)
theorem m_cnt_congr {ab ab' : Nat → Int32} {i : Nat} : ∀ n, (∀ j, j < n → ab' j = ab j) → m_cnt ab' i n = m_cnt ab i n := by
  intro n
  induction n with
  | zero => intro _; rfl
  | succ n ih => intro h; unfold m_cnt; rw [ih (fun j hj => h j (by omega)), h n (by omega)]
theorem m_cnt_mono {ab : Nat → Int32} {i n : Nat} : ∀ k, m_cnt ab i n ≤ m_cnt ab i (n + k) := by
  intro k
  induction k with
  | zero => exact Nat.le_refl _
  | succ k ih => show _ ≤ m_cnt ab i (n + k) + _; omega
theorem m_cnt_le {ab : Nat → Int32} {i n n' : Nat} (h : n ≤ n') : m_cnt ab i n ≤ m_cnt ab i n' := by
  have := m_cnt_mono (ab := ab) (i := i) (n := n) (n' - n)
  rw [show n + (n' - n) = n' from by omega] at this
  exact this
theorem m_cnt_in {ab : Nat → Int32} {i j n : Nat} (h1 : i < j) (h2 : j < n) (h3 : ab j = nI i) : m_cnt ab i j + 1 ≤ m_cnt ab i n := by
  have e1 : m_cnt ab i (j + 1) = m_cnt ab i j + 1 := by
    show m_cnt ab i j + (if i < j ∧ ab j = nI i then 1 else 0) = _
    rw [if_pos ⟨h1, h3⟩]
  have := m_cnt_le (ab := ab) (i := i) (show j + 1 ≤ n from h2)
  omega
def m_ct (A : m_AT) (hi i : Nat) : Prop := ∃ cn, m_cb A i = nI cn ∧ cn ≤ m_cnt (m_ab A) i hi ∧ cn ≤ 20000
/-- from one state of the nodes to a later one -/
def m_R (h : ab_H) (q : Nat) (F : List Value) (nn cap : Nat) (R : Nat → Nat) (A : m_AT) (h' : ab_H) (F' : List Value) (nn' cap' : Nat) (R' : Nat → Nat) (A' : m_AT) : Prop := nn ≤ nn' ∧ (∀ i, i < nn → m_va A' i = m_va A i ∧ m_kb A' i = m_kb A i ∧ m_cb A' i = m_cb A i ∧ m_ab A' i = m_ab A i ∧ m_nb A' i = m_nb A i) ∧ (∀ i, i < 14 → F'[i]? = F[i]?) ∧ (∀ (k : Nat) (x : ab_E), h[k]? = some x → k ≠ q → k ≠ R 0 → k ≠ R 1 → k ≠ R 2 → k ≠ R 3 → k ≠ R 4 → k ≠ R 5 → h'[k]? = some x) ∧ ((∀ j, j < 6 → R' j = R j) ∨ (∀ j, j < 6 → h.length ≤ R' j)) ∧ h.length ≤ h'.length ∧ 64 * h'.length + 6 * cap ≤ 64 * h.length + 6 * cap' ∧ ab_sz h' + 12 * cap ≤ ab_sz h + 12 * cap' ∧ cap ≤ cap' ∧ cap' ≤ 16384
theorem m_R.tr {h h1 h2 : ab_H} {q : Nat} {F F1 F2 : List Value} {nn n1 n2 cap c1 c2 : Nat} {R R1 R2 : Nat → Nat} {A A1 A2 : m_AT} (x : m_R h q F nn cap R A h1 F1 n1 c1 R1 A1) (y : m_R h1 q F1 n1 c1 R1 A1 h2 F2 n2 c2 R2 A2) : m_R h q F nn cap R A h2 F2 n2 c2 R2 A2 := by
  obtain ⟨x1, x2, x3, x4, x5, x6, x7, x8, x9, x10⟩ := x
  obtain ⟨y1, y2, y3, y4, y5, y6, y7, y8, y9, y10⟩ := y
  refine ⟨by omega, fun i hi => ?_, fun i hi => (y3 i hi).trans (x3 i hi), fun k x hk z0 z1 z2 z3 z4 z5 z6 => ?_, ?_, by omega, by omega, by omega, by omega, y10⟩
  · have a := x2 i hi
    have b := y2 i (by omega)
    exact ⟨b.1.trans a.1, b.2.1.trans a.2.1, b.2.2.1.trans a.2.2.1, b.2.2.2.1.trans a.2.2.2.1, b.2.2.2.2.trans a.2.2.2.2⟩
  · have hl := x_lt hk
    have nr : ∀ j, j < 6 → k ≠ R j → k ≠ R1 j := fun j hj hn => by
      rcases x5 with z | z
      · rw [z j hj]; exact hn
      · have := z j hj; omega
    exact y4 k x (x4 k x hk z0 z1 z2 z3 z4 z5 z6) z0 (nr 0 (by omega) z1) (nr 1 (by omega) z2) (nr 2 (by omega) z3) (nr 3 (by omega) z4) (nr 4 (by omega) z5) (nr 5 (by omega) z6)
  · rcases y5 with z | z
    · rcases x5 with w | w
      · exact Or.inl (fun j hj => (z j hj).trans (w j hj))
      · exact Or.inr (fun j hj => by rw [z j hj]; exact w j hj)
    · exact Or.inr (fun j hj => by have := z j hj; omega)
section XLL
variable {e : xE} {h h' : ab_H} {q nn cap nn' cap' l u : Nat} {F F' : List Value} {R R' : Nat → Nat} {A A' : m_AT}
/-- strings stay; a tree that lies apart from the rows stays -/
theorem m_R.kp (x : m_R h q F nn cap R A h' F' nn' cap' R' A') (hE : m_E h q F nn cap R A) (hq : q < l ∨ u ≤ q) (hR : ∀ j, j < 6 → R j < l ∨ u ≤ R j) : m_kp h h' l u := by
  obtain ⟨-, -, -, x4, -⟩ := x
  obtain ⟨⟨hc, -, -⟩, -, ⟨ha, hb, hcc, hd, he, hf⟩, -⟩ := hE
  refine ⟨fun k y hk a b => ?_, fun k G hk => ?_, fun k n f hk => ?_⟩
  · have := hR 0 (by omega); have := hR 1 (by omega); have := hR 2 (by omega); have := hR 3 (by omega); have := hR 4 (by omega); have := hR 5 (by omega)
    exact x4 k y hk (by omega) (by omega) (by omega) (by omega) (by omega) (by omega) (by omega)
  · exact x4 k _ hk (x_neq hk hc (by simp)) (x_neq hk ha (by simp)) (x_neq hk hb (by simp)) (x_neq hk hcc (by simp)) (x_neq hk hd (by simp)) (x_neq hk he (by simp)) (x_neq hk hf (by simp))
  · exact x4 k _ hk (x_neq hk hc (by simp)) (x_neq hk ha (by simp)) (x_neq hk hb (by simp)) (x_neq hk hcc (by simp)) (x_neq hk hd (by simp)) (x_neq hk he (by simp)) (x_neq hk hf (by simp))
theorem m_R.obj (x : m_R h q F nn cap R A h' F' nn' cap' R' A') (hE : m_E h q F nn cap R A) {b : Nat} {G : List Value} (hb : h[b]? = some (.inr (11, G))) : h'[b]? = some (.inr (11, G)) := by
  obtain ⟨-, -, -, x4, -⟩ := x
  obtain ⟨⟨hc, -, -⟩, -, ⟨ha, hb', hcc, hd, he, hf⟩, -⟩ := hE
  exact x4 b _ hb (x_neq hb hc (by simp)) (x_neq hb ha (by simp)) (x_neq hb hb' (by simp)) (x_neq hb hcc (by simp)) (x_neq hb hd (by simp)) (x_neq hb he (by simp)) (x_neq hb hf (by simp))
theorem m_R.str (x : m_R h q F nn cap R A h' F' nn' cap' R' A') (hE : m_E h q F nn cap R A) {v : Value} {m : Nat} (z : j_str e h v m) : j_str e h' v m := (x.kp hE (l := h.length + q + 1) (u := h.length + q + 1) (Or.inl (by omega)) (fun j hj => by omega)).str z
theorem m_R.nd (x : m_R h q F nn cap R A h' F' nn' cap' R' A') (hE : m_E h q F nn cap R A) {i : Nat} (hi : i < nn) (z : m_nd e h A i) : m_nd e h' A' i := by
  obtain ⟨⟨b, G, zz, tx, z1, z2, z3, z4, z5⟩, z6⟩ := z
  have y := x.2.1 i hi
  refine ⟨⟨b, G, zz, tx, y.1.trans z1, x.obj hE z2, z3, z4, fun a1 a2 => ?_⟩, ?_⟩
  · rw [y.2.1] at a1 a2
    obtain ⟨m, w⟩ := z5 a1 a2
    exact ⟨m, x.str hE w⟩
  · rw [y.2.2.2.2]
    rcases z6 with w | ⟨m, w⟩
    · exact Or.inl w
    · exact Or.inr ⟨m, x.str hE w⟩
theorem m_R.ct (x : m_R h q F nn cap R A h' F' nn' cap' R' A') {i : Nat} (hi : i < nn) (z : m_ct A nn i) : m_ct A' nn' i := by
  obtain ⟨cn, z1, z2, z3⟩ := z
  have y := x.2.1 i hi
  refine ⟨cn, y.2.2.1.trans z1, ?_, z3⟩
  have e1 : m_cnt (m_ab A') i nn = m_cnt (m_ab A) i nn := m_cnt_congr nn (fun j hj => (x.2.1 j hj).2.2.2.1)
  have := m_cnt_le (ab := m_ab A') (i := i) x.1
  omega
theorem m_nd.el {i : Nat} (z : m_nd e h A i) : x_el h 4 (m_va A i) ∧ x_el h 3 (m_nb A i) := by
  obtain ⟨⟨b, G, zz, tx, z1, z2, -⟩, z6⟩ := z
  exact ⟨Or.inr (Or.inl ⟨b, 11, G, z1, z2, by decide⟩), x_el.str z6⟩
end XLL
section XNE
variable {e : xE} {d q nn cap b : Nat} {h : ab_H} {F Gb : List Value} {R : Nat → Nat} {A : m_AT} {nm : Value} {k p c ar : Int32}
/-- node, between states -/
theorem m_nodeE (hE : m_E h q F nn cap R A) (hnd : ∀ i, i < nn → m_nd e h A i) (hbb : h[b]? = some (.inr (11, Gb))) (hnm : nm = .null ∨ ∃ n, j_str e h nm n) (hn8 : nn ≤ 8192) (hcap : cap ≤ 16384) (r1 : 64 * h.length + 6 * (16384 - cap) + 1000 ≤ 64 * e.2.2.2.1) (r2 : ab_sz h + 12 * (16384 - cap) ≤ e.2.2.2.2.1) : xT e d 33 0 [(0, .ref q), (1, .int k), (2, .int p), (3, .int c), (4, .ref b), (5, nm), (6, .int ar)] [] h (fun o h' => ∃ v, o = .inl v ∧ v = some (.int (nI nn)) ∧ ∃ F' cap' R' A', m_E h' q F' (nn + 1) cap' R' A' ∧ m_R h q F nn cap R A h' F' (nn + 1) cap' R' A' ∧ m_va A' nn = .ref b ∧ m_kb A' nn = k ∧ m_cb A' nn = c ∧ m_ab A' nn = ar ∧ m_nb A' nn = nm) := by
  have hc64 : 64 ≤ cap := hE.2.2.2.2.2.1
  have hnc : nn ≤ cap := hE.2.2.2.2.1
  refine (m_node hE (fun i hi => (hnd i hi).el) hbb hnm (fun z => ⟨hcap, by omega, by omega⟩)).mono (fun o h' ho => ?_)
  obtain ⟨v, y1, y2, F', cap', ra', rb', rc', rd', re', rf', va', nb', kb', pb', cb', ab', y3, y4, y5, y6, y7, y8, y9, y10, y11, y12⟩ := ho
  rcases y12 with ⟨z0, z1, z2, z3, z4, z5, z6, z7, z8⟩ | ⟨z, z0, z1, z2, z3, z4, z5, z6, z7, z8⟩
  · exact ⟨v, y1, y2, F', cap', fun j => if j = 0 then ra' else if j = 1 then rb' else if j = 2 then rc' else if j = 3 then rd' else if j = 4 then re' else rf', (va', nb', kb', pb', cb', ab'), y3, ⟨by omega, y4, y10, y11, Or.inl (fun j hj => by
        rcases (show j = 0 ∨ j = 1 ∨ j = 2 ∨ j = 3 ∨ j = 4 ∨ j = 5 from by omega) with w | w | w | w | w | w <;> subst w <;> assumption), by omega, by omega, by omega, by omega, by omega⟩, y5, y6, y7, y8, y9⟩
  · exact ⟨v, y1, y2, F', cap', fun j => if j = 0 then ra' else if j = 1 then rb' else if j = 2 then rc' else if j = 3 then rd' else if j = 4 then re' else rf', (va', nb', kb', pb', cb', ab'), y3, ⟨by omega, y4, y10, y11, Or.inr (fun j hj => by
        rcases (show j = 0 ∨ j = 1 ∨ j = 2 ∨ j = 3 ∨ j = 4 ∨ j = 5 from by omega) with w | w | w | w | w | w <;> subst w <;> simp <;> omega), by omega, by omega, by omega, by omega, by omega⟩, y5, y6, y7, y8, y9⟩
end XNE
