/-! the class: a token in the making -/
/-- a token: kind, beginning, end -/
def c_K (h : ab_H) (qk : Nat) (kd : Int32) (b en : Nat) : Prop := ∃ Fk, h[qk]? = some (.inr (2, Fk)) ∧ Fk.length = 6 ∧ Fk[0]? = some (.int kd) ∧ Fk[1]? = some (.int (nI b)) ∧ Fk[2]? = some (.int (nI en)) ∧ (∃ x, Fk[3]? = some (.int x)) ∧ (∃ x, Fk[4]? = some (.int x)) ∧ (∃ x, Fk[5]? = some (.long x))
/-- the tape and its token, as they came of h0 -/
def c_Z (h0 h : ab_H) (qt qb ql th ta : Nat) (F0 F : List Value) (gb gl : Nat → Int32) (len kp : Nat) (kd : Int32) (b en : Nat) : Prop := c_T h qt qb ql th ta F gb gl len kp ∧ c_K h ta kd b en ∧ (∀ k, k ≠ qt → k ≠ ql → k ≠ ta → h[k]? = h0[k]?) ∧ h.length = h0.length ∧ ab_sz h = ab_sz h0 ∧ (∀ i, i ≠ 2 → F[i]? = F0[i]?)
/-- what a token's kind says of its end -/
def c_ok (kd : Int32) (b en len : Nat) : Prop := ((kd = 26 ∨ kd = 27) ∧ en = len) ∨ (kd ≠ 26 ∧ kd ≠ 27 ∧ b < en ∧ en ≤ len)
section XCZ
variable {e : xE} {d qt qb ql th ta len kp b en p : Nat} {F F0 : List Value} {gb gl : Nat → Int32} {h h0 : ab_H} {kd c : Int32}
theorem c_keepZ (hZ : c_Z h0 h qt qb ql th ta F0 F gb gl len kp kd b en) : xT e d 134 0 [(0, .ref qt), (1, .int c)] [] h (fun o h' => ∃ v, o = .inl v ∧ v = none ∧ ∃ F' gl' kp', c_Z h0 h' qt qb ql th ta F0 F' gb gl' len kp' kd b en) := by
  obtain ⟨hT, ⟨Fk, k0, k1⟩, z1, z2, z3, z4⟩ := hZ
  refine (c_keep hT).mono (fun o h' ho => ?_)
  obtain ⟨v, y1, y2, F', gl', kp', y3, y4, y5, y6, y7, y8⟩ := ho
  exact ⟨v, y1, y2, F', gl', kp', y3, ⟨Fk, (y6 ta (x_neq k0 hT.1 (by simp)) (x_neq k0 hT.2.2.2.2.2.2.2.2.2.1 (by simp))).trans k0, k1⟩, fun k n1 n2 n3 => (y6 k n1 n2).trans (z1 k n1 n2 n3), y7.trans z2, y8.trans z3, fun i hi => (y5 i hi).trans (z4 i hi)⟩
theorem c_accZ {x : Int32} {y : Nat} (hZ : c_Z h0 h qt qb ql th ta F0 F gb gl len kp kd b en) : xT e d 121 0 [(0, .ref ta), (1, .int x), (2, .int (nI y))] [] h (fun o h' => ∃ v, o = .inl v ∧ v = none ∧ c_Z h0 h' qt qb ql th ta F0 F gb gl len kp x b y) := by
  obtain ⟨⟨ht, lt, t0, t1, t2, t3, t4, t5, hb8, hl8, k4, l4, hne⟩, ⟨Fk, k0, k1, k2, k3, k5, k6, k7, k8⟩, z1, z2, z3, z4⟩ := hZ
  refine (c_accept k0 k1).mono (fun o h' ho => ?_)
  obtain ⟨v, y1, y2, Fk', y3, y4, y5, y6, y7, y8, y9, y10⟩ := ho
  refine ⟨v, y1, y2, ⟨(y8 _ (x_neq ht k0 (by simp))).trans ht, lt, t0, t1, t2, t3, t4, t5, (y8 _ (x_neq hb8 k0 (by simp))).trans hb8, (y8 _ (x_neq hl8 k0 (by simp))).trans hl8, k4, l4, hne⟩, ⟨Fk', y3, y4, y5, (y7 1 (by decide) (by decide)).trans k3, y6, ?_, ?_, ?_⟩, fun k n1 n2 n3 => (y8 k n3).trans (z1 k n1 n2 n3), y9.trans z2, y10.trans z3, z4⟩
  · obtain ⟨x, hx⟩ := k6; exact ⟨x, (y7 3 (by decide) (by decide)).trans hx⟩
  · obtain ⟨x, hx⟩ := k7; exact ⟨x, (y7 4 (by decide) (by decide)).trans hx⟩
  · obtain ⟨x, hx⟩ := k8; exact ⟨x, (y7 5 (by decide) (by decide)).trans hx⟩
theorem c_spLoop {ws : UInt32} {n : Nat} (hE : e.1 = .null ∨ ∃ w, e.1 = .float w) (hZ : c_Z h0 h qt qb ql th ta F0 F gb gl len kp kd b en) (hs : j_str e h (.float ws) n) : ∀ (m i : Nat) (al : Int32), n - i < m → i ≤ n → (al = 0 ∨ al = 1) → xT e (d + 4) 128 25 [(4, .int (nI i)), (3, .int al), (0, .ref qt), (1, .ref ta), (2, .float ws)] [] h (fun o h' => ∃ v, o = .inl v ∧ (∃ z : Int32, v = some (.int z)) ∧ h' = h) := by
  have hM : (x_mt e.1)[128]? = some xM128 := rfl
  obtain ⟨ht, lt, t0, t1, t2, t3, t4, t5, hb8, hl8, k4, l4, hne⟩ := id hZ.1
  obtain ⟨Fk, q0, q1, q2, q3, q5, ⟨x3, q6⟩, ⟨x4, q7⟩, ⟨x5, q8⟩⟩ := id hZ.2.1
  obtain ⟨Fx, rx, gx, kk, -, -, -, hn2, -⟩ := id hs
  intro m
  induction m with
  | zero => intro i al m1; omega
  | succ m ih =>
    intro i al m1 m2 hal
    refine xT.s1 hM rfl rfl ?_
    refine xT.s1 hM rfl rfl ?_
    refine xT.go hM rfl rfl rfl rfl rfl rfl (xc_sv rfl rfl rfl kk ⟨rfl, Nat.le_of_ble_eq_true rfl, rfl⟩) rfl ⟨Nat.le_of_ble_eq_true rfl, Nat.le_of_ble_eq_true rfl, by decide⟩ (j_len hs) (fun v h2 hv => ?_)
    obtain ⟨rfl, hh2⟩ := hv
    subst h2
    refine xT.s1 hM rfl rfl ?_
    refine xT.br (fun b0 => ?_) (fun b0 => ?_)
    · refine xT.s1 hM rfl rfl ?_
      exact xT.ret (v := some (.int al)) hM rfl rfl rfl (by rcases hal with z | z <;> rw [z] <;> rfl) ⟨_, rfl, ⟨_, rfl⟩, rfl⟩
    · have hi : i < n := Nat.lt_of_not_le (fun z => b0 (nI_le z (by omega)))
      refine xT.s1 hM rfl rfl ?_
      refine xT.s1 hM rfl rfl ?_
      refine xT.br (fun b1 => ?_) (fun b1 => ?_)
      · refine xT.s1 hM rfl rfl ?_
        exact xT.ret (v := some (.int al)) hM rfl rfl rfl (by rcases hal with z | z <;> rw [z] <;> rfl) ⟨_, rfl, ⟨_, rfl⟩, rfl⟩
      · refine xT.s1 hM rfl rfl ?_
        refine xT.s1 hM rfl rfl ?_
        refine xT.s2 hM rfl rfl (x2_get rfl (Or.inl rfl) q0 q6) ?_
        refine xT.s1 hM rfl rfl ?_
        refine xT.s1 hM rfl rfl ?_
        refine xT.go hM rfl rfl rfl rfl rfl rfl (xc_virt rfl rfl rfl ht ⟨rfl, Nat.le_of_ble_eq_true rfl, rfl, Or.inl rfl⟩) rfl ⟨Nat.le_of_ble_eq_true rfl, Nat.le_of_ble_eq_true rfl, by decide⟩ (c_letter hZ.1) (fun v h2 hv => ?_)
        obtain ⟨⟨zl, rfl⟩, hh2⟩ := hv
        subst h2
        refine xT.s1 hM rfl rfl ?_
        refine xT.s1 hM rfl rfl ?_
        refine xT.go hM rfl rfl rfl rfl rfl rfl (xc_sv rfl rfl rfl kk ⟨rfl, Nat.le_of_ble_eq_true rfl, rfl⟩) rfl ⟨Nat.le_of_ble_eq_true rfl, Nat.le_of_ble_eq_true rfl, by decide⟩ (j_charAt hE hs hi) (fun v h2 hv => ?_)
        obtain ⟨zc, rfl, hh2⟩ := hv
        subst h2
        refine xT.s1 hM rfl rfl ?_
        refine xT.br (fun b2 => ?_) (fun b2 => ?_)
        · refine xT.s1 hM rfl rfl ?_
          refine xT.s1 hM rfl rfl ?_
          refine xT.s1 hM rfl rfl ?_
          refine xT.s1 hM rfl rfl ?_
          rw [show nI i + Int32.ofInt 1 = nI (i + 1) from nI_add i 1]
          refine xT.s1 hM rfl rfl ?_
          exact xT.weak (L' := [(4, _), (3, _), (0, _), (1, _), (2, _)]) ⟨by simp, by simp⟩ (ih (i + 1) (Int32.ofInt 1) (by omega) (by omega) (Or.inr (by decide)))
        · refine xT.s1 hM rfl rfl ?_
          refine xT.s1 hM rfl rfl ?_
          refine xT.s1 hM rfl rfl ?_
          rw [show nI i + Int32.ofInt 1 = nI (i + 1) from nI_add i 1]
          refine xT.s1 hM rfl rfl ?_
          exact xT.weak (L' := [(4, _), (3, _), (0, _), (1, _), (2, _)]) ⟨by simp, by simp⟩ (ih (i + 1) (Int32.ofInt 0) (by omega) (by omega) (Or.inl (by decide)))
theorem c_spells {ws : UInt32} (hE : e.1 = .null ∨ ∃ w, e.1 = .float w) (hZ : c_Z h0 h qt qb ql th ta F0 F gb gl len kp kd b en) (hs : ∃ n, j_old e (.float ws) n) : xT e (d + 4) 128 0 [(0, .ref qt), (1, .ref ta), (2, .float ws)] [] h (fun o h' => ∃ v, o = .inl v ∧ (∃ z : Int32, v = some (.int z)) ∧ h' = h) := by
  have hM : (x_mt e.1)[128]? = some xM128 := rfl
  obtain ⟨ht, lt, t0, t1, t2, t3, t4, t5, hb8, hl8, k4, l4, hne⟩ := id hZ.1
  obtain ⟨Fk, q0, q1, q2, q3, q5, ⟨x3, q6⟩, ⟨x4, q7⟩, ⟨x5, q8⟩⟩ := id hZ.2.1
  obtain ⟨n, ho⟩ := hs
  have hs := ho.str h
  obtain ⟨Fx, rx, gx, kk, -, -, -, hn2, -⟩ := id hs
  refine xT.s1 hM rfl rfl ?_
  refine xT.s2 hM rfl rfl (x2_get rfl (Or.inl rfl) ht t2) ?_
  refine xT.s1 hM rfl rfl ?_
  refine xT.s2 hM rfl rfl (x2_get rfl (Or.inl rfl) q0 q6) ?_
  refine xT.s1 hM rfl rfl ?_
  refine xT.s1 hM rfl rfl ?_
  refine xT.go hM rfl rfl rfl rfl rfl rfl (xc_sv rfl rfl rfl kk ⟨rfl, Nat.le_of_ble_eq_true rfl, rfl⟩) rfl ⟨Nat.le_of_ble_eq_true rfl, Nat.le_of_ble_eq_true rfl, by decide⟩ (j_len hs) (fun v h2 hv => ?_)
  obtain ⟨rfl, hh2⟩ := hv
  subst h2
  refine xT.s1 hM rfl rfl ?_
  refine xT.br (fun b0 => ?_) (fun b0 => ?_)
  · refine xT.s1 hM rfl rfl ?_
    refine xT.s1 hM rfl rfl ?_
    refine xT.s1 hM rfl rfl ?_
    refine xT.s1 hM rfl rfl ?_
    refine xT.s1 hM rfl rfl ?_
    exact c_spLoop hE hZ hs (n + 1) 0 _ (by omega) (by omega) (Or.inr (by decide))
  · refine xT.s1 hM rfl rfl ?_
    refine xT.s1 hM rfl rfl ?_
    refine xT.s1 hM rfl rfl ?_
    refine xT.s1 hM rfl rfl ?_
    exact c_spLoop hE hZ hs (n + 1) 0 _ (by omega) (by omega) (Or.inl (by decide))
theorem c_wdLoop {Q : ab_O → ab_H → Prop} : ∀ (m p : Nat) (F : List Value) (gl : Nat → Int32) (kp : Nat) (h : ab_H), len - p < m → p ≤ len → c_Z h0 h qt qb ql th ta F0 F gb gl len kp kd b en → (∀ (p' : Nat) (F' : List Value) (gl' : Nat → Int32) (kp' : Nat) (h' : ab_H), c_Z h0 h' qt qb ql th ta F0 F' gb gl' len kp' kd b en → p ≤ p' → p' ≤ len → (x_isL (x_by gb len p) = true → p < p') → xT e (d + 2) 127 71 [(2, .int (nI p')), (0, .ref qt), (1, .ref ta)] [] h' Q) → xT e (d + 2) 127 5 [(2, .int (nI p)), (0, .ref qt), (1, .ref ta)] [] h Q := by
  have hM : (x_mt e.1)[127]? = some xM127 := rfl
  intro m
  induction m with
  | zero => intro p F gl kp h m1; omega
  | succ m ih =>
    intro p F gl kp h m1 m2 hZ k
    obtain ⟨ht, lt, t0, t1, t2, t3, t4, t5, hb8, hl8, k4, l4, hne⟩ := id hZ.1
    obtain ⟨Fk, q0, q1, q2, q3, q5, ⟨x3, q6⟩, ⟨x4, q7⟩, ⟨x5, q8⟩⟩ := id hZ.2.1
    refine xT.s1 hM rfl rfl ?_
    refine xT.s1 hM rfl rfl ?_
    refine xT.s2 hM rfl rfl (x2_get rfl (Or.inl rfl) ht t3) ?_
    refine xT.s1 hM rfl rfl ?_
    refine xT.br (fun b0 => ?_) (fun b0 => ?_)
    · exact xT.weak (L' := [(2, _), (0, _), (1, _)]) ⟨by simp, by simp⟩ (k p F gl kp h hZ (Nat.le_refl _) m2 (fun z => absurd (x_isL_by z) (by have := (nI_leI (by omega) (by omega)).mp b0; omega)))
    · have hlt : p < len := Nat.lt_of_not_le (fun z => b0 (nI_le z (by omega)))
      refine xT.s1 hM rfl rfl ?_
      refine xT.s1 hM rfl rfl ?_
      refine xT.go hM rfl rfl rfl rfl rfl rfl (xc_virt rfl rfl rfl ht ⟨rfl, Nat.le_of_ble_eq_true rfl, rfl, Or.inl rfl⟩) rfl ⟨Nat.le_of_ble_eq_true rfl, Nat.le_of_ble_eq_true rfl, by decide⟩ (c_at hZ.1 (k := p) (by omega)) (fun v h2 hv => ?_)
      obtain ⟨rfl, hh2⟩ := hv
      subst h2
      refine xT.s1 hM rfl rfl ?_
      refine xT.s1 hM rfl rfl ?_
      refine xT.s1 hM rfl rfl ?_
      have adv : ∀ jn : Int32, xT e (d + 2) 127 60 [(4, .int jn), (3, .int (x_by gb len p)), (2, .int (nI p)), (0, .ref qt), (1, .ref ta)] [] h Q := by
        intro jn
        refine xT.s1 hM rfl rfl ?_
        refine xT.s1 hM rfl rfl ?_
        refine xT.go hM rfl rfl rfl rfl rfl rfl (xc_virt rfl rfl rfl ht ⟨rfl, Nat.le_of_ble_eq_true rfl, rfl, Or.inl rfl⟩) rfl ⟨Nat.le_of_ble_eq_true rfl, Nat.le_of_ble_eq_true rfl, by decide⟩ (c_keepZ hZ) (fun v h2 hv => ?_)
        obtain ⟨rfl, F', gl', kp', hZ⟩ := hv
        refine xT.s1 hM rfl rfl ?_
        rw [show nI p + Int32.ofInt 1 = nI (p + 1) from nI_add p 1]
        refine xT.s1 hM rfl rfl ?_
        exact xT.weak (L' := [(2, _), (4, _), (3, _), (0, _), (1, _)]) ⟨by simp, by simp⟩ (ih (p + 1) F' gl' kp' h2 (by omega) (by omega) hZ (fun p' F'' gl'' kp'' h'' w1 w2 w3 w4 => k p' F'' gl'' kp'' h'' w1 (by omega) w3 (fun _ => by omega)))
      have chk : ∀ jn : Int32, xT e (d + 2) 127 45 [(4, .int jn), (3, .int (x_by gb len p)), (2, .int (nI p)), (0, .ref qt), (1, .ref ta)] [] h Q := by
        intro jn
        refine xT.s1 hM rfl rfl ?_
        refine xT.s1 hM rfl rfl ?_
        refine xT.br (fun b1 => ?_) (fun b1 => ?_)
        · refine xT.s1 hM rfl rfl ?_
          refine xT.go hM rfl rfl rfl rfl rfl rfl (xc_stat rfl rfl ⟨rfl, Nat.le_of_ble_eq_true rfl⟩) rfl ⟨Nat.le_of_ble_eq_true rfl, Nat.le_of_ble_eq_true rfl, by decide⟩ (c_isLD) (fun v h2 hv => ?_)
          obtain ⟨rfl, hh2⟩ := hv
          subst h2
          refine xT.s1 hM rfl rfl ?_
          refine xT.br (fun b2 => ?_) (fun b2 => ?_)
          · refine xT.s1 hM rfl rfl ?_
            exact xT.weak (L' := [(4, _), (3, _), (2, _), (0, _), (1, _)]) ⟨by simp, by simp⟩ (k p F gl kp h hZ (Nat.le_refl _) m2 (fun z => absurd (show (x_isL (x_by gb len p) || x_isD (x_by gb len p)) = true from by simp [z]) (x_b00 b2)))
          · exact adv jn
        · exact adv jn
      refine xT.s1 hM rfl rfl ?_
      refine xT.br (fun b3 => ?_) (fun b3 => ?_)
      · refine xT.s1 hM rfl rfl ?_
        refine xT.s1 hM rfl rfl ?_
        refine xT.s1 hM rfl rfl ?_
        refine xT.s1 hM rfl rfl ?_
        rw [show nI p + Int32.ofInt 1 = nI (p + 1) from nI_add p 1]
        refine xT.go hM rfl rfl rfl rfl rfl rfl (xc_virt rfl rfl rfl ht ⟨rfl, Nat.le_of_ble_eq_true rfl, rfl, Or.inl rfl⟩) rfl ⟨Nat.le_of_ble_eq_true rfl, Nat.le_of_ble_eq_true rfl, by decide⟩ (c_at hZ.1 (k := (p + 1)) (by omega)) (fun v h2 hv => ?_)
        obtain ⟨rfl, hh2⟩ := hv
        subst h2
        refine xT.go hM rfl rfl rfl rfl rfl rfl (xc_stat rfl rfl ⟨rfl, Nat.le_of_ble_eq_true rfl⟩) rfl ⟨Nat.le_of_ble_eq_true rfl, Nat.le_of_ble_eq_true rfl, by decide⟩ (c_isLD) (fun v h2 hv => ?_)
        obtain ⟨rfl, hh2⟩ := hv
        subst h2
        refine xT.s1 hM rfl rfl ?_
        refine xT.br (fun b4 => ?_) (fun b4 => ?_)
        · refine xT.s1 hM rfl rfl ?_
          refine xT.s1 hM rfl rfl ?_
          exact chk _
        · refine xT.s1 hM rfl rfl ?_
          refine xT.s1 hM rfl rfl ?_
          refine xT.s1 hM rfl rfl ?_
          exact chk _
      · refine xT.s1 hM rfl rfl ?_
        refine xT.s1 hM rfl rfl ?_
        exact chk _
theorem c_word (hE : e.1 = .null ∨ ∃ w, e.1 = .float w) (hZ : c_Z h0 h qt qb ql th ta F0 F gb gl len kp kd b en) (hkd : kd = 27) (hen : en = len) (hb : b < len) (hlet : x_isL (x_by gb len b) = true) : xT e (d + 5) 127 0 [(0, .ref qt), (1, .ref ta)] [] h (fun o h' => ∃ v, o = .inl v ∧ v = none ∧ ∃ F' gl' kp' kd' en', c_Z h0 h' qt qb ql th ta F0 F' gb gl' len kp' kd' b en' ∧ c_ok kd' b en' len) := by
  have hM : (x_mt e.1)[127]? = some xM127 := rfl
  obtain ⟨ht, lt, t0, t1, t2, t3, t4, t5, hb8, hl8, k4, l4, hne⟩ := id hZ.1
  obtain ⟨Fk, q0, q1, q2, q3, q5, ⟨x3, q6⟩, ⟨x4, q7⟩, ⟨x5, q8⟩⟩ := id hZ.2.1
  refine xT.s1 hM rfl rfl ?_
  refine xT.s2 hM rfl rfl (x2_get rfl (Or.inl rfl) q0 q3) ?_
  refine xT.s1 hM rfl rfl ?_
  refine c_wdLoop (d := d + 3) (len + 1) b F gl kp h (by omega) (by omega) hZ (fun p F gl kp h hZ w1 w2 w3 => ?_)
  have hbp := w3 hlet
  obtain ⟨ht, lt, t0, t1, t2, t3, t4, t5, hb8, hl8, k4, l4, hne⟩ := id hZ.1
  obtain ⟨Fk, q0, q1, q2, q3, q5, ⟨x3, q6⟩, ⟨x4, q7⟩, ⟨x5, q8⟩⟩ := id hZ.2.1
  refine xT.s1 hM rfl rfl ?_
  refine xT.s1 hM rfl rfl ?_
  refine xT.s2 hM rfl rfl (x2_get rfl (Or.inl rfl) q0 q3) ?_
  refine xT.go hM rfl rfl rfl rfl rfl rfl (xc_virt rfl rfl rfl ht ⟨rfl, Nat.le_of_ble_eq_true rfl, rfl, Or.inl rfl⟩) rfl ⟨Nat.le_of_ble_eq_true rfl, Nat.le_of_ble_eq_true rfl, by decide⟩ (c_at hZ.1 (k := b) (by omega)) (fun v h2 hv => ?_)
  obtain ⟨rfl, hh2⟩ := hv
  subst h2
  refine xT.go hM rfl rfl rfl rfl rfl rfl (xc_stat rfl rfl ⟨rfl, Nat.le_of_ble_eq_true rfl⟩) rfl ⟨Nat.le_of_ble_eq_true rfl, Nat.le_of_ble_eq_true rfl, by decide⟩ (c_isS) (fun v h2 hv => ?_)
  obtain ⟨⟨zs, rfl⟩, hh2⟩ := hv
  subst h2
  refine xT.s1 hM rfl rfl ?_
  refine xT.br (fun b0 => ?_) (fun b0 => ?_)
  · refine xT.s1 hM rfl rfl ?_
    refine xT.s1 hM rfl rfl ?_
    refine xT.s2 hM rfl rfl rfl ?_
    refine xT.go hM rfl rfl rfl rfl rfl rfl (xc_virt rfl rfl rfl ht ⟨rfl, Nat.le_of_ble_eq_true rfl, rfl, Or.inl rfl⟩) rfl ⟨Nat.le_of_ble_eq_true rfl, Nat.le_of_ble_eq_true rfl, by decide⟩ (c_spells hE hZ (m_wsok e _ (by simp))) (fun v h2 hv => ?_)
    obtain ⟨⟨zs, rfl⟩, hh2⟩ := hv
    subst h2
    refine xT.s1 hM rfl rfl ?_
    refine xT.br (fun bs => ?_) (fun bs => ?_)
    · refine xT.s1 hM rfl rfl ?_
      refine xT.s1 hM rfl rfl ?_
      refine xT.s2 hM rfl rfl rfl ?_
      refine xT.go hM rfl rfl rfl rfl rfl rfl (xc_virt rfl rfl rfl ht ⟨rfl, Nat.le_of_ble_eq_true rfl, rfl, Or.inl rfl⟩) rfl ⟨Nat.le_of_ble_eq_true rfl, Nat.le_of_ble_eq_true rfl, by decide⟩ (c_spells hE hZ (m_wsok e _ (by simp))) (fun v h2 hv => ?_)
      obtain ⟨⟨zs, rfl⟩, hh2⟩ := hv
      subst h2
      refine xT.s1 hM rfl rfl ?_
      refine xT.br (fun bs => ?_) (fun bs => ?_)
      · refine xT.s1 hM rfl rfl ?_
        refine xT.s1 hM rfl rfl ?_
        refine xT.s2 hM rfl rfl rfl ?_
        refine xT.go hM rfl rfl rfl rfl rfl rfl (xc_virt rfl rfl rfl ht ⟨rfl, Nat.le_of_ble_eq_true rfl, rfl, Or.inl rfl⟩) rfl ⟨Nat.le_of_ble_eq_true rfl, Nat.le_of_ble_eq_true rfl, by decide⟩ (c_spells hE hZ (m_wsok e _ (by simp))) (fun v h2 hv => ?_)
        obtain ⟨⟨zs, rfl⟩, hh2⟩ := hv
        subst h2
        refine xT.s1 hM rfl rfl ?_
        refine xT.br (fun bs => ?_) (fun bs => ?_)
        · exact xT.ret hM rfl rfl rfl rfl (⟨_, rfl, rfl, _, _, _, _, _, hZ, Or.inl ⟨Or.inr hkd, hen⟩⟩)
        · refine xT.s1 hM rfl rfl ?_
          refine xT.s1 hM rfl rfl ?_
          refine xT.s1 hM rfl rfl ?_
          refine xT.go hM rfl rfl rfl rfl rfl rfl (xc_virt rfl rfl rfl q0 ⟨rfl, Nat.le_of_ble_eq_true rfl, rfl, Or.inl rfl⟩) rfl ⟨Nat.le_of_ble_eq_true rfl, Nat.le_of_ble_eq_true rfl, by decide⟩ (c_accZ (y := p) hZ) (fun v h2 hv => ?_)
          obtain ⟨rfl, hZ⟩ := hv
          exact xT.ret hM rfl rfl rfl rfl (⟨_, rfl, rfl, _, _, _, _, _, hZ, Or.inr ⟨by decide, by decide, hbp, w2⟩⟩)
      · refine xT.s1 hM rfl rfl ?_
        refine xT.s1 hM rfl rfl ?_
        refine xT.s1 hM rfl rfl ?_
        refine xT.go hM rfl rfl rfl rfl rfl rfl (xc_virt rfl rfl rfl q0 ⟨rfl, Nat.le_of_ble_eq_true rfl, rfl, Or.inl rfl⟩) rfl ⟨Nat.le_of_ble_eq_true rfl, Nat.le_of_ble_eq_true rfl, by decide⟩ (c_accZ (y := p) hZ) (fun v h2 hv => ?_)
        obtain ⟨rfl, hZ⟩ := hv
        refine xT.s1 hM rfl rfl ?_
        exact xT.ret hM rfl rfl rfl rfl (⟨_, rfl, rfl, _, _, _, _, _, hZ, Or.inr ⟨by decide, by decide, hbp, w2⟩⟩)
    · refine xT.s1 hM rfl rfl ?_
      refine xT.s1 hM rfl rfl ?_
      refine xT.s1 hM rfl rfl ?_
      refine xT.go hM rfl rfl rfl rfl rfl rfl (xc_virt rfl rfl rfl q0 ⟨rfl, Nat.le_of_ble_eq_true rfl, rfl, Or.inl rfl⟩) rfl ⟨Nat.le_of_ble_eq_true rfl, Nat.le_of_ble_eq_true rfl, by decide⟩ (c_accZ (y := p) hZ) (fun v h2 hv => ?_)
      obtain ⟨rfl, hZ⟩ := hv
      refine xT.s1 hM rfl rfl ?_
      exact xT.ret hM rfl rfl rfl rfl (⟨_, rfl, rfl, _, _, _, _, _, hZ, Or.inr ⟨by decide, by decide, hbp, w2⟩⟩)
  · refine xT.s1 hM rfl rfl ?_
    refine xT.s1 hM rfl rfl ?_
    refine xT.s1 hM rfl rfl ?_
    refine xT.go hM rfl rfl rfl rfl rfl rfl (xc_virt rfl rfl rfl q0 ⟨rfl, Nat.le_of_ble_eq_true rfl, rfl, Or.inl rfl⟩) rfl ⟨Nat.le_of_ble_eq_true rfl, Nat.le_of_ble_eq_true rfl, by decide⟩ (c_accZ (y := p) hZ) (fun v h2 hv => ?_)
    obtain ⟨rfl, hZ⟩ := hv
    refine xT.s1 hM rfl rfl ?_
    exact xT.ret hM rfl rfl rfl rfl (⟨_, rfl, rfl, _, _, _, _, _, hZ, Or.inr ⟨by decide, by decide, hbp, w2⟩⟩)
theorem c_sign (hZ : c_Z h0 h qt qb ql th ta F0 F gb gl len kp kd b en) (hkd : kd = 27) (hen : en = len) (hb : b < len) : xT e (d + 1) 132 0 [(0, .ref qt), (1, .ref ta), (2, .int c)] [] h (fun o h' => ∃ v, o = .inl v ∧ v = none ∧ ∃ F' gl' kp' kd' en', c_Z h0 h' qt qb ql th ta F0 F' gb gl' len kp' kd' b en' ∧ c_ok kd' b en' len) := by
  have hM : (x_mt e.1)[132]? = some xM132 := rfl
  obtain ⟨ht, lt, t0, t1, t2, t3, t4, t5, hb8, hl8, k4, l4, hne⟩ := id hZ.1
  obtain ⟨Fk, q0, q1, q2, q3, q5, ⟨x3, q6⟩, ⟨x4, q7⟩, ⟨x5, q8⟩⟩ := id hZ.2.1
  refine xT.s1 hM rfl rfl ?_
  refine xT.s2 hM rfl rfl (x2_get rfl (Or.inl rfl) q0 q3) ?_
  refine xT.s1 hM rfl rfl ?_
  refine xT.s1 hM rfl rfl ?_
  rw [show nI b + Int32.ofInt 1 = nI (b + 1) from nI_add b 1]
  refine xT.s1 hM rfl rfl ?_
  refine xT.s1 hM rfl rfl ?_
  refine xT.s1 hM rfl rfl ?_
  refine xT.s1 hM rfl rfl ?_
  refine xT.br (fun c0 => ?_) (fun c0 => ?_)
  · refine xT.s1 hM rfl rfl ?_
    refine xT.s1 hM rfl rfl ?_
    refine xT.s1 hM rfl rfl ?_
    refine xT.go hM rfl rfl rfl rfl rfl rfl (xc_virt rfl rfl rfl q0 ⟨rfl, Nat.le_of_ble_eq_true rfl, rfl, Or.inl rfl⟩) rfl ⟨Nat.le_of_ble_eq_true rfl, Nat.le_of_ble_eq_true rfl, by decide⟩ (c_accZ (y := (b + 1)) hZ) (fun v h2 hv => ?_)
    obtain ⟨rfl, hZ⟩ := hv
    refine xT.s1 hM rfl rfl ?_
    exact xT.ret hM rfl rfl rfl rfl (⟨_, rfl, rfl, _, _, _, _, _, hZ, Or.inr ⟨by decide, by decide, by omega, by omega⟩⟩)
  · refine xT.s1 hM rfl rfl ?_
    refine xT.s1 hM rfl rfl ?_
    refine xT.s1 hM rfl rfl ?_
    refine xT.br (fun c1 => ?_) (fun c1 => ?_)
    · refine xT.s1 hM rfl rfl ?_
      refine xT.s1 hM rfl rfl ?_
      refine xT.s1 hM rfl rfl ?_
      refine xT.go hM rfl rfl rfl rfl rfl rfl (xc_virt rfl rfl rfl q0 ⟨rfl, Nat.le_of_ble_eq_true rfl, rfl, Or.inl rfl⟩) rfl ⟨Nat.le_of_ble_eq_true rfl, Nat.le_of_ble_eq_true rfl, by decide⟩ (c_accZ (y := (b + 1)) hZ) (fun v h2 hv => ?_)
      obtain ⟨rfl, hZ⟩ := hv
      refine xT.s1 hM rfl rfl ?_
      exact xT.ret hM rfl rfl rfl rfl (⟨_, rfl, rfl, _, _, _, _, _, hZ, Or.inr ⟨by decide, by decide, by omega, by omega⟩⟩)
    · refine xT.s1 hM rfl rfl ?_
      refine xT.s1 hM rfl rfl ?_
      refine xT.s1 hM rfl rfl ?_
      refine xT.br (fun c2 => ?_) (fun c2 => ?_)
      · refine xT.s1 hM rfl rfl ?_
        refine xT.s1 hM rfl rfl ?_
        refine xT.s1 hM rfl rfl ?_
        refine xT.go hM rfl rfl rfl rfl rfl rfl (xc_virt rfl rfl rfl q0 ⟨rfl, Nat.le_of_ble_eq_true rfl, rfl, Or.inl rfl⟩) rfl ⟨Nat.le_of_ble_eq_true rfl, Nat.le_of_ble_eq_true rfl, by decide⟩ (c_accZ (y := (b + 1)) hZ) (fun v h2 hv => ?_)
        obtain ⟨rfl, hZ⟩ := hv
        refine xT.s1 hM rfl rfl ?_
        exact xT.ret hM rfl rfl rfl rfl (⟨_, rfl, rfl, _, _, _, _, _, hZ, Or.inr ⟨by decide, by decide, by omega, by omega⟩⟩)
      · refine xT.s1 hM rfl rfl ?_
        refine xT.s1 hM rfl rfl ?_
        refine xT.s1 hM rfl rfl ?_
        refine xT.br (fun c3 => ?_) (fun c3 => ?_)
        · refine xT.s1 hM rfl rfl ?_
          refine xT.s1 hM rfl rfl ?_
          refine xT.s1 hM rfl rfl ?_
          refine xT.go hM rfl rfl rfl rfl rfl rfl (xc_virt rfl rfl rfl q0 ⟨rfl, Nat.le_of_ble_eq_true rfl, rfl, Or.inl rfl⟩) rfl ⟨Nat.le_of_ble_eq_true rfl, Nat.le_of_ble_eq_true rfl, by decide⟩ (c_accZ (y := (b + 1)) hZ) (fun v h2 hv => ?_)
          obtain ⟨rfl, hZ⟩ := hv
          refine xT.s1 hM rfl rfl ?_
          exact xT.ret hM rfl rfl rfl rfl (⟨_, rfl, rfl, _, _, _, _, _, hZ, Or.inr ⟨by decide, by decide, by omega, by omega⟩⟩)
        · refine xT.s1 hM rfl rfl ?_
          refine xT.s1 hM rfl rfl ?_
          refine xT.s1 hM rfl rfl ?_
          refine xT.br (fun c4 => ?_) (fun c4 => ?_)
          · refine xT.s1 hM rfl rfl ?_
            refine xT.s1 hM rfl rfl ?_
            refine xT.go hM rfl rfl rfl rfl rfl rfl (xc_virt rfl rfl rfl ht ⟨rfl, Nat.le_of_ble_eq_true rfl, rfl, Or.inl rfl⟩) rfl ⟨Nat.le_of_ble_eq_true rfl, Nat.le_of_ble_eq_true rfl, by decide⟩ (c_at hZ.1 (k := (b + 1)) (by omega)) (fun v h2 hv => ?_)
            obtain ⟨rfl, hh2⟩ := hv
            subst h2
            refine xT.s1 hM rfl rfl ?_
            refine xT.s1 hM rfl rfl ?_
            refine xT.br (fun c5 => ?_) (fun c5 => ?_)
            · refine xT.s1 hM rfl rfl ?_
              refine xT.s1 hM rfl rfl ?_
              refine xT.s1 hM rfl rfl ?_
              refine xT.s1 hM rfl rfl ?_
              rw [show nI (b + 1) + Int32.ofInt 1 = nI (b + 1 + 1) from nI_add (b + 1) 1]
              refine xT.go hM rfl rfl rfl rfl rfl rfl (xc_virt rfl rfl rfl ht ⟨rfl, Nat.le_of_ble_eq_true rfl, rfl, Or.inl rfl⟩) rfl ⟨Nat.le_of_ble_eq_true rfl, Nat.le_of_ble_eq_true rfl, by decide⟩ (c_at hZ.1 (k := (b + 1 + 1)) (by omega)) (fun v h2 hv => ?_)
              obtain ⟨rfl, hh2⟩ := hv
              subst h2
              refine xT.s1 hM rfl rfl ?_
              refine xT.s1 hM rfl rfl ?_
              refine xT.br (fun c6 => ?_) (fun c6 => ?_)
              · exact xT.ret hM rfl rfl rfl rfl (⟨_, rfl, rfl, _, _, _, _, _, hZ, Or.inl ⟨Or.inr hkd, hen⟩⟩)
              · refine xT.s1 hM rfl rfl ?_
                refine xT.s1 hM rfl rfl ?_
                refine xT.s1 hM rfl rfl ?_
                refine xT.go hM rfl rfl rfl rfl rfl rfl (xc_virt rfl rfl rfl q0 ⟨rfl, Nat.le_of_ble_eq_true rfl, rfl, Or.inl rfl⟩) rfl ⟨Nat.le_of_ble_eq_true rfl, Nat.le_of_ble_eq_true rfl, by decide⟩ (c_accZ (y := (b + 1)) hZ) (fun v h2 hv => ?_)
                obtain ⟨rfl, hZ⟩ := hv
                exact xT.ret hM rfl rfl rfl rfl (⟨_, rfl, rfl, _, _, _, _, _, hZ, Or.inr ⟨by decide, by decide, by omega, by omega⟩⟩)
            · refine xT.s1 hM rfl rfl ?_
              refine xT.s1 hM rfl rfl ?_
              refine xT.s1 hM rfl rfl ?_
              refine xT.go hM rfl rfl rfl rfl rfl rfl (xc_virt rfl rfl rfl q0 ⟨rfl, Nat.le_of_ble_eq_true rfl, rfl, Or.inl rfl⟩) rfl ⟨Nat.le_of_ble_eq_true rfl, Nat.le_of_ble_eq_true rfl, by decide⟩ (c_accZ (y := (b + 1)) hZ) (fun v h2 hv => ?_)
              obtain ⟨rfl, hZ⟩ := hv
              exact xT.ret hM rfl rfl rfl rfl (⟨_, rfl, rfl, _, _, _, _, _, hZ, Or.inr ⟨by decide, by decide, by omega, by omega⟩⟩)
          · exact xT.ret hM rfl rfl rfl rfl (⟨_, rfl, rfl, _, _, _, _, _, hZ, Or.inl ⟨Or.inr hkd, hen⟩⟩)
theorem c_stLoop (hkd : kd = 27) (hen : en = len) : ∀ (m p : Nat) (F : List Value) (gl : Nat → Int32) (kp : Nat) (h : ab_H), len - p < m → b < p → p ≤ len → c_Z h0 h qt qb ql th ta F0 F gb gl len kp kd b en → xT e (d + 1) 130 7 [(2, .int (nI p)), (0, .ref qt), (1, .ref ta)] [] h (fun o h' => ∃ v, o = .inl v ∧ v = none ∧ ∃ F' gl' kp' kd' en', c_Z h0 h' qt qb ql th ta F0 F' gb gl' len kp' kd' b en' ∧ c_ok kd' b en' len) := by
  have hM : (x_mt e.1)[130]? = some xM130 := rfl
  intro m
  induction m with
  | zero => intro p F gl kp h m1; omega
  | succ m ih =>
    intro p F gl kp h m1 m2 m3 hZ
    obtain ⟨ht, lt, t0, t1, t2, t3, t4, t5, hb8, hl8, k4, l4, hne⟩ := id hZ.1
    obtain ⟨Fk, q0, q1, q2, q3, q5, ⟨x3, q6⟩, ⟨x4, q7⟩, ⟨x5, q8⟩⟩ := id hZ.2.1
    refine xT.s1 hM rfl rfl ?_
    refine xT.s1 hM rfl rfl ?_
    refine xT.s2 hM rfl rfl (x2_get rfl (Or.inl rfl) ht t3) ?_
    refine xT.s1 hM rfl rfl ?_
    refine xT.br (fun b0 => ?_) (fun b0 => ?_)
    · exact xT.ret hM rfl rfl rfl rfl (⟨_, rfl, rfl, _, _, _, _, _, hZ, Or.inl ⟨Or.inr hkd, hen⟩⟩)
    · have hlt : p < len := Nat.lt_of_not_le (fun z => b0 (nI_le z (by omega)))
      refine xT.s1 hM rfl rfl ?_
      refine xT.s1 hM rfl rfl ?_
      refine xT.go hM rfl rfl rfl rfl rfl rfl (xc_virt rfl rfl rfl ht ⟨rfl, Nat.le_of_ble_eq_true rfl, rfl, Or.inl rfl⟩) rfl ⟨Nat.le_of_ble_eq_true rfl, Nat.le_of_ble_eq_true rfl, by decide⟩ (c_at hZ.1 (k := p) (by omega)) (fun v h2 hv => ?_)
      obtain ⟨rfl, hh2⟩ := hv
      subst h2
      refine xT.s1 hM rfl rfl ?_
      refine xT.s1 hM rfl rfl ?_
      refine xT.s1 hM rfl rfl ?_
      have kp60 : ∀ p' : Nat, p ≤ p' → p' < len → xT e (d + 1) 130 60 [(3, .int (x_by gb len p)), (2, .int (nI p')), (0, .ref qt), (1, .ref ta)] [] h (fun o h' => ∃ v, o = .inl v ∧ v = none ∧ ∃ F' gl' kp' kd' en', c_Z h0 h' qt qb ql th ta F0 F' gb gl' len kp' kd' b en' ∧ c_ok kd' b en' len) := by
        intro p' l1 l2
        refine xT.s1 hM rfl rfl ?_
        refine xT.s1 hM rfl rfl ?_
        refine xT.go hM rfl rfl rfl rfl rfl rfl (xc_virt rfl rfl rfl ht ⟨rfl, Nat.le_of_ble_eq_true rfl, rfl, Or.inl rfl⟩) rfl ⟨Nat.le_of_ble_eq_true rfl, Nat.le_of_ble_eq_true rfl, by decide⟩ (c_keepZ hZ) (fun v h2 hv => ?_)
        obtain ⟨rfl, F', gl', kp', hZ⟩ := hv
        refine xT.s1 hM rfl rfl ?_
        rw [show nI p' + Int32.ofInt 1 = nI (p' + 1) from nI_add p' 1]
        refine xT.s1 hM rfl rfl ?_
        exact xT.weak (L' := [(2, _), (3, _), (0, _), (1, _)]) ⟨by simp, by simp⟩ (ih (p' + 1) F' gl' kp' h2 (by omega) (by omega) (by omega) hZ)
      refine xT.s1 hM rfl rfl ?_
      refine xT.br (fun b1 => ?_) (fun b1 => ?_)
      · exact xT.ret hM rfl rfl rfl rfl (⟨_, rfl, rfl, _, _, _, _, _, hZ, Or.inl ⟨Or.inr hkd, hen⟩⟩)
      · refine xT.s1 hM rfl rfl ?_
        refine xT.s1 hM rfl rfl ?_
        refine xT.s1 hM rfl rfl ?_
        refine xT.br (fun b2 => ?_) (fun b2 => ?_)
        · refine xT.s1 hM rfl rfl ?_
          refine xT.s1 hM rfl rfl ?_
          refine xT.s1 hM rfl rfl ?_
          refine xT.br (fun b3 => ?_) (fun b3 => ?_)
          · refine xT.s1 hM rfl rfl ?_
            rw [show nI p + Int32.ofInt 1 = nI (p + 1) from nI_add p 1]
            refine xT.s1 hM rfl rfl ?_
            refine xT.s1 hM rfl rfl ?_
            refine xT.go hM rfl rfl rfl rfl rfl rfl (xc_virt rfl rfl rfl ht ⟨rfl, Nat.le_of_ble_eq_true rfl, rfl, Or.inl rfl⟩) rfl ⟨Nat.le_of_ble_eq_true rfl, Nat.le_of_ble_eq_true rfl, by decide⟩ (c_at hZ.1 (k := (p + 1)) (by omega)) (fun v h2 hv => ?_)
            obtain ⟨rfl, hh2⟩ := hv
            subst h2
            refine xT.s1 hM rfl rfl ?_
            refine xT.s1 hM rfl rfl ?_
            refine xT.br (fun b4 => ?_) (fun b4 => ?_)
            · rw [show (Int8.ofInt 34).toInt32 = 34 from by decide] at b4
              have hl2 : p + 1 < len := x_byIn (fun z => by rw [z] at b4; exact absurd b4 (by decide))
              exact xT.weak (L' := [(2, _), (3, _), (0, _), (1, _)]) ⟨by simp, by simp⟩ (kp60 (p + 1) (by omega) hl2)
            · refine xT.s1 hM rfl rfl ?_
              refine xT.s1 hM rfl rfl ?_
              refine xT.s1 hM rfl rfl ?_
              refine xT.go hM rfl rfl rfl rfl rfl rfl (xc_virt rfl rfl rfl q0 ⟨rfl, Nat.le_of_ble_eq_true rfl, rfl, Or.inl rfl⟩) rfl ⟨Nat.le_of_ble_eq_true rfl, Nat.le_of_ble_eq_true rfl, by decide⟩ (c_accZ (y := (p + 1)) hZ) (fun v h2 hv => ?_)
              obtain ⟨rfl, hZ⟩ := hv
              exact xT.ret hM rfl rfl rfl rfl (⟨_, rfl, rfl, _, _, _, _, _, hZ, Or.inr ⟨by decide, by decide, by omega, by omega⟩⟩)
          · exact kp60 p (Nat.le_refl _) hlt
        · exact xT.ret hM rfl rfl rfl rfl (⟨_, rfl, rfl, _, _, _, _, _, hZ, Or.inl ⟨Or.inr hkd, hen⟩⟩)
theorem c_string (hZ : c_Z h0 h qt qb ql th ta F0 F gb gl len kp kd b en) (hkd : kd = 27) (hen : en = len) (hb : b < len) : xT e (d + 1) 130 0 [(0, .ref qt), (1, .ref ta)] [] h (fun o h' => ∃ v, o = .inl v ∧ v = none ∧ ∃ F' gl' kp' kd' en', c_Z h0 h' qt qb ql th ta F0 F' gb gl' len kp' kd' b en' ∧ c_ok kd' b en' len) := by
  have hM : (x_mt e.1)[130]? = some xM130 := rfl
  obtain ⟨ht, lt, t0, t1, t2, t3, t4, t5, hb8, hl8, k4, l4, hne⟩ := id hZ.1
  obtain ⟨Fk, q0, q1, q2, q3, q5, ⟨x3, q6⟩, ⟨x4, q7⟩, ⟨x5, q8⟩⟩ := id hZ.2.1
  refine xT.s1 hM rfl rfl ?_
  refine xT.s2 hM rfl rfl (x2_get rfl (Or.inl rfl) q0 q3) ?_
  refine xT.s1 hM rfl rfl ?_
  refine xT.s1 hM rfl rfl ?_
  rw [show nI b + Int32.ofInt 1 = nI (b + 1) from nI_add b 1]
  refine xT.s1 hM rfl rfl ?_
  exact c_stLoop hkd hen (len + 1) (b + 1) F gl kp h (by omega) (by omega) (by omega) hZ
end XCZ
