/-! the law's own calls of the class -/
theorem xT.last {e : xE} {d mi pc len tg j n k : Nat} {L : ab_L} {S : List Value} {h : ab_H} {Q : ab_O → ab_H → Prop} {M : ab_M} {f : Nat → Value} {y : Int64} (hM : (x_mt e.1)[mi]? = some M) (hf : ab_fe M pc = some (.lastore, len, tg)) (hj : h[j]? = some (.inl (2, n, f))) (hk : k < n) (hn : n < 2 ^ 31) (t : ∀ h1, h1 = h.set j (.inl (2, n, updV f k (.long y))) → x_up h j h1 (.inl (2, n, updV f k (.long y))) → xT e d mi (pc + 1) L S h1 Q) : xT e d mi pc L (.long y :: .int (nI k) :: .ref j :: S) h Q := by
  refine xT.s2 hM hf rfl ?_ (t _ rfl (x_up_set hj rfl))
  simp only [ab_s2, hj]
  rw [if_pos ⟨rfl, x_ixN hk hn⟩, x_clampN (by omega)]
/-- the class's state, as the law sees it, and the row for answers -/
def w_S (h : ab_H) (q0 qt qb ql qa qo : Nat) (gb : Nat → Int32) (len cap : Nat) (y : Int64) : Prop := (∃ (th ta qe sz : Nat) (kh : Int32) (bh eh : Nat) (ka : Int32) (ba ea : Nat), c_S h q0 qt qb ql th ta qa qe gb len cap sz kh bh eh ka ba ea ∧ sz ≤ 8000) ∧ cap ≤ 17010 ∧ ∃ f, h[qo]? = some (.inl (2, 1, f)) ∧ f 0 = .long y
def w_fr (h h' : ab_H) (qb ql qo : Nat) : Prop := ∀ (k : Nat) (x : ab_E), h[k]? = some x → k ≠ qb → k ≠ ql → k ≠ qo → (∀ ci G, x = .inr (ci, G) → ci ≠ 0 ∧ ci ≠ 1 ∧ ci ≠ 2 ∧ ci ≠ 4 ∧ ci ≠ 10) → (∀ n f, x ≠ .inl (5, n, f)) → h'[k]? = some x
section XWR
variable {e : xE} {d q0 qt qb ql qa qo len cap : Nat} {gb : Nat → Int32} {h h' : ab_H} {y0 : Int64}
theorem c_S.row2 {th ta qe sz bh eh ba ea n : Nat} {kh ka : Int32} {f g : Nat → Value} (hS : c_S h q0 qt qb ql th ta qa qe gb len cap sz kh bh eh ka ba ea) (u : x_up h qo h' (.inl (2, n, g))) (hb : h[qo]? = some (.inl (2, n, f))) : c_S h' q0 qt qb ql th ta qa qe gb len cap sz kh bh eh ka ba ea := by
  have ko : ∀ (k ci : Nat) (F : List Value), h[k]? = some (.inr (ci, F)) → h'[k]? = some (.inr (ci, F)) := fun k ci F hk => (u.2.1 k (x_neq hk hb (by simp))).trans hk
  have kr : ∀ (k t m : Nat) (f : Nat → Value), h[k]? = some (.inl (t, m, f)) → t ≠ 2 → h'[k]? = some (.inl (t, m, f)) := fun k t m f hk ht => (u.2.1 k (x_neq hk hb (by simp; omega))).trans hk
  obtain ⟨⟨F0, hq, r0⟩, ⟨Ft, gl, kp, ht, lt, t0, t1, t2, t3, t4, t5, hb8, hl8, r1⟩, hH, hA, hht, ⟨Fa, ef, ha, la, f1, f2, hd, hs, hc, hN⟩, hY⟩ := hS
  refine ⟨⟨F0, ko _ _ _ hq, r0⟩, ⟨Ft, gl, kp, ko _ _ _ ht, lt, t0, t1, t2, t3, t4, t5, kr _ _ _ _ hb8 (by decide), kr _ _ _ _ hl8 (by decide), r1⟩, hH.kept (fun F hk => ko _ _ _ hk), hA.kept (fun F hk => ko _ _ _ hk), hht, ⟨Fa, ef, ko _ _ _ ha, la, f1, f2, ?_, hs, hc, fun i hi => (hN i hi).kept (fun k G hk => ⟨G, ko _ _ _ hk⟩)⟩, fun k F hk => hY k F (x_rev_up u (by simp) hk)⟩
  rcases hd with z | ⟨z1, z2, z3⟩
  · exact Or.inl z
  · exact Or.inr ⟨z1, kr _ _ _ _ z2 (by decide), z3⟩
theorem c_fr.w (k : c_fr h h' qb ql) : w_fr h h' qb ql qo := fun j x hj n1 n2 _ n4 n5 => k j x hj n1 n2 n4 n5
theorem c_fr.o {f : Nat → Value} (k : c_fr h h' qb ql) (hb : h[qo]? = some (.inl (2, 1, f))) (n1 : qo ≠ qb) (n2 : qo ≠ ql) : h'[qo]? = some (.inl (2, 1, f)) := k qo _ hb n1 n2 (by simp) (by simp)
theorem x_updL (y z : Int64) : updV (fun _ => Value.long y) 0 (.long z) 0 = .long z := x_upd1 _ _ _
/-- thrown: the cell has come -/
theorem w_thrown {c0 ce xq : Nat} (hW : w_S h q0 qt qb ql qa qo gb len cap y0) (hc : c0 ≠ 10) (k : c_TH h c0 ce xq h') : ce = c0 ∧ ab_isx h' xq ce = true ∧ w_S h' q0 qt qb ql qa qo gb len cap y0 ∧ w_fr h h' qb ql qo ∧ h'.length = h.length + 1 ∧ ab_sz h' = ab_sz h + 6 := by
  obtain ⟨k1, k2, k3⟩ := k
  subst k1 k2
  have w := x_nw_push h (.inr (ce, List.replicate 6 .null))
  rw [← k3] at w
  obtain ⟨⟨th, ta, qe, sz, kh, bh, eh, ka, ba, ea, hS, hs⟩, hc2, fo, ho, ho1⟩ := hW
  refine ⟨rfl, by unfold ab_isx; rw [w.1]; simp, ⟨⟨th, ta, qe, sz, kh, bh, eh, ka, ba, ea, hS.ext w.2.1 (fun k F hk => hS.2.2.2.2.2.2 k F (x_rev_nw k3 (by simp; omega) hk)), hs⟩, hc2, fo, w.2.1 _ _ ho, ho1⟩, fun k x hk _ _ _ _ _ => w.2.1 k x hk, w.2.2.1, w.2.2.2⟩
end XWR
