/-! AN ABSTRACT MACHINE. Its heap is a list of cells, counted from the first that the law makes; a reference is a place in that list. Old cells (the script, constants) are named by floats, which the program doesn't use. -/
abbrev ab_E : Type := (Nat × Nat × (Nat → Value)) ⊕ (Nat × List Value)
abbrev ab_H : Type := List ab_E
abbrev ab_L : Type := List (Nat × Value)
def ab_v (B : Nat) (od : Nat → Nat) (v : Value) : Value := match v with
  | .ref j => .ref (B + j)
  | .float w => .ref (od w.toNat)
  | v => v
theorem ab_v_cat (B : Nat) (od : Nat → Nat) (v : Value) : (ab_v B od v).category = v.category := by cases v <;> rfl
/-- a cell stands for an abstract one -/
def ab_c (B : Nat) (od : Nat → Nat) (D : va_G) (dA : Nat → ClassId) (cl : List vw_C) (k : Nat) (x : ab_E) (H : Heap) : Prop := match x with
  | .inl (t, n, f) => H[B + k]? = some (arrV (dA t) n (fun j => ab_v B od (f j)))
  | .inr (ci, fs) => ∃ r : vw_C, cl[ci]? = some r ∧ t_OB (B + k) (D.1 ci) r.2.2 (D.2 ci) H (vp_V (fs.map (ab_v B od)))
theorem ab_c.kept {B : Nat} {od : Nat → Nat} {D : va_G} {dA : Nat → ClassId} {cl : List vw_C} {k : Nat} {x : ab_E} {H H1 : Heap} (h : ab_c B od D dA cl k x H) (hq : H1[B + k]? = H[B + k]?) : ab_c B od D dA cl k x H1 := by
  rcases x with ⟨t, n, f⟩ | ⟨ci, fs⟩
  · exact hq.trans h
  · obtain ⟨r, h1, h2⟩ := h
    exact ⟨r, h1, h2.kept hq⟩
def ab_sz1 (x : ab_E) : Nat := match x with
  | .inl (_, n, _) => n
  | .inr (_, fs) => fs.length
def ab_sz (h : ab_H) : Nat := (h.map ab_sz1).sum
theorem ab_sz_push (h : ab_H) (x : ab_E) : ab_sz (h ++ [x]) = ab_sz h + ab_sz1 x := by simp [ab_sz]
/-- the heap stands for an abstract one; nothing below B has changed since H0; so many cells and slots have come since the activation began (n0, z0 were there) -/
def ab_R (B : Nat) (od : Nat → Nat) (D : va_G) (dA : Nat → ClassId) (cl : List vw_C) (NC NS : Nat) (H0 : Heap) (n0 z0 : Nat) (h : ab_H) (H : Heap) (locs : List Loc) (cells slots : Nat) : Prop :=
  (∀ (k : Nat) (x : ab_E), h[k]? = some x → ab_c B od D dA cl k x H) ∧ H.size = B + h.length ∧ va_S (fun q => B ≤ q) H0 H locs ∧ h.length = n0 + cells ∧ ab_sz h = z0 + slots ∧ h.length ≤ NC ∧ ab_sz h ≤ NS
theorem ab_R.set {B : Nat} {od : Nat → Nat} {D : va_G} {dA : Nat → ClassId} {cl : List vw_C} {NC NS : Nat} {H0 : Heap} {n0 z0 : Nat} {h : ab_H} {H H1 : Heap} {locs : List Loc} {cells slots k i : Nat} {x0 x : ab_E}
    (hR : ab_R B od D dA cl NC NS H0 n0 z0 h H locs cells slots) (hk : h[k]? = some x0) (hz : ab_sz1 x = ab_sz1 x0) (hx : ab_c B od D dA cl k x H1) (zs : H1.size = H.size) (oq : ∀ q : Nat, q ≠ B + k → H1[q]? = H[q]?) :
    ab_R B od D dA cl NC NS H0 n0 z0 (h.set k x) H1 (locs ++ [⟨B + k, i⟩]) cells slots := by
  obtain ⟨h1, h2, h3, h4, h5, h6, h7⟩ := hR
  have hl := (List.getElem?_eq_some_iff.mp hk).1
  refine ⟨fun j y hj => ?_, by rw [zs, h2, List.length_set], h3.put zs oq (Nat.le_add_right _ _), by rw [List.length_set]; exact h4, ?_⟩
  · by_cases hjk : j = k
    · subst hjk
      rw [List.getElem?_set_self hl] at hj
      cases hj
      exact hx
    · rw [List.getElem?_set_ne (Ne.symm hjk)] at hj
      exact (h1 j y hj).kept (oq _ (by omega))
  · have e : ab_sz (h.set k x) = ab_sz h := by
      have e0 : (h.set k x).map ab_sz1 = h.map ab_sz1 := by
        rw [List.map_set, hz]
        have e1 : (h.map ab_sz1)[k]? = some (ab_sz1 x0) := by rw [List.getElem?_map, hk]; rfl
        apply List.ext_getElem?
        intro j
        by_cases hjk : j = k
        · subst hjk
          rw [List.getElem?_set_self (by simpa using hl), e1]
        · rw [List.getElem?_set_ne (Ne.symm hjk)]
      unfold ab_sz
      rw [e0]
    rw [e, List.length_set]; exact ⟨h5, h6, h7⟩
theorem ab_R.push {B : Nat} {od : Nat → Nat} {D : va_G} {dA : Nat → ClassId} {cl : List vw_C} {NC NS : Nat} {H0 : Heap} {n0 z0 : Nat} {h : ab_H} {H H1 : Heap} {locs : List Loc} {cells slots n : Nat} {x : ab_E}
    (hR : ab_R B od D dA cl NC NS H0 n0 z0 h H locs cells slots) (hz : ab_sz1 x = n) (hNC : h.length + 1 ≤ NC) (hNS : ab_sz h + n ≤ NS) (hx : ab_c B od D dA cl h.length x H1) (zs : H1.size = H.size + 1) (oq : ∀ q : Nat, q < H.size → H1[q]? = H[q]?) :
    ab_R B od D dA cl NC NS H0 n0 z0 (h ++ [x]) H1 locs (cells + 1) (slots + n) := by
  obtain ⟨h1, h2, h3, h4, h5, h6, h7⟩ := hR
  refine ⟨fun j y hj => ?_, by rw [zs, h2, List.length_append]; rfl, ⟨by rw [zs]; exact Nat.le_trans h3.1 (Nat.le_succ _), fun q a b => (oq q (Nat.lt_of_lt_of_le a h3.1)).trans (h3.2.1 q a b), h3.2.2⟩, by rw [List.length_append, h4]; rfl, by rw [ab_sz_push]; omega, by rw [List.length_append]; exact hNC, by rw [ab_sz_push]; omega⟩
  by_cases hl : j < h.length
  · rw [List.getElem?_append_left hl] at hj
    exact (h1 j y hj).kept (oq _ (by rw [h2]; omega))
  · rw [List.getElem?_append_right (by omega)] at hj
    have hj0 : j - h.length < 1 := (List.getElem?_eq_some_iff.mp hj).1
    have hj1 : j = h.length := by omega
    subst hj1
    rw [Nat.sub_self] at hj
    cases hj
    exact hx
/-- locals -/
def ab_get (L : ab_L) (i : Nat) : Option Value := (L.find? (fun q => q.1 == i)).map (fun q => q.2)
def ab_put1 (L : ab_L) (i : Nat) (v : Value) : ab_L := (i, v) :: L.filter (fun q => !(q.1 == i) && !(q.1 + 1 == i && q.2.category == 2))
def ab_put2 (L : ab_L) (i : Nat) (v : Value) : ab_L := (i, v) :: L.filter (fun q => !(q.1 == i) && (!(q.1 == i + 1) && !(q.1 + 1 == i && q.2.category == 2)))
def ab_m (B : Nat) (od : Nat → Nat) (L : ab_L) : ab_L := L.map (fun q => (q.1, ab_v B od q.2))
theorem ab_get_mem {L : ab_L} {i : Nat} {v : Value} (h : ab_get L i = some v) : (i, v) ∈ L := by
  unfold ab_get at h
  cases hf : L.find? (fun q => q.1 == i) with
  | none => rw [hf] at h; cases h
  | some q =>
    rw [hf] at h
    have h1 := List.mem_of_find?_eq_some hf
    have h2 := List.find?_some hf
    obtain ⟨a, b⟩ := q
    simp at h h2
    subst h2; subst h
    exact h1
theorem ab_at {B : Nat} {od : Nat → Nat} {L : ab_L} {i nL : Nat} {v : Value} {ls : Array Slot} (hl : lv_has ls nL (ab_m B od L)) (h : ab_get L i = some v) : ls[i]? = some (.val (ab_v B od v)) :=
  hl.2.2 (i, ab_v B od v) (List.mem_map.mpr ⟨(i, v), ab_get_mem h, rfl⟩)
theorem ab_m_put1 (B : Nat) (od : Nat → Nat) (L : ab_L) (i : Nat) (v : Value) : (i, ab_v B od v) :: (ab_m B od L).filter (fun q => !(q.1 == i) && !(q.1 + 1 == i && q.2.category == 2)) = ab_m B od (ab_put1 L i v) := by
  unfold ab_m ab_put1
  rw [List.filter_map, List.map_cons]
  congr 2
  apply List.filter_congr
  intro q _
  simp [ab_v_cat]
theorem ab_m_put2 (B : Nat) (od : Nat → Nat) (L : ab_L) (i : Nat) (v : Value) : (i, ab_v B od v) :: (ab_m B od L).filter (fun q => !(q.1 == i) && (!(q.1 == i + 1) && !(q.1 + 1 == i && q.2.category == 2))) = ab_m B od (ab_put2 L i v) := by
  unfold ab_m ab_put2
  rw [List.filter_map, List.map_cons]
  congr 2
  apply List.filter_congr
  intro q _
  simp [ab_v_cat]
