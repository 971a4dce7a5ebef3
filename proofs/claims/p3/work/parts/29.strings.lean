theorem x_i2c {c : Int32} (h0 : 0 ≤ c) (h1 : c ≤ 255) : (c.toUInt32 % 65536).toInt32 = c := by
  have e0 : (0 : Int32).toInt = 0 := by decide
  have e1 : (255 : Int32).toInt = 255 := by decide
  rw [Int32.le_iff_toInt_le, e0] at h0
  rw [Int32.le_iff_toInt_le, e1] at h1
  have hn : c.toUInt32.toNat = c.toInt.toNat := by
    have : c.toInt = c.toBitVec.toInt := rfl
    have h2 : c.toUInt32.toNat = c.toBitVec.toNat := rfl
    rw [h2, this]
    rw [this] at h0 h1
    rw [BitVec.toInt_eq_toNat_cond] at h0 h1 ⊢
    split <;> omega
  have hm : c.toUInt32 % 65536 = c.toUInt32 := by
    apply UInt32.toNat_inj.mp
    rw [UInt32.toNat_mod, show (65536 : UInt32).toNat = 65536 from rfl]
    apply Nat.mod_eq_of_lt
    omega
  rw [hm]
  rfl
theorem x_and255 (x : Int32) : 0 ≤ x &&& 255 ∧ x &&& 255 ≤ 255 := by
  have e1 : (255 : Int32).toInt = 255 := by decide
  have h : (x &&& 255).toInt = ((x.toBitVec.toNat &&& 255 : Nat) : Int) := by
    have : (x &&& 255).toInt = (x.toBitVec &&& 255#32).toInt := rfl
    rw [this, BitVec.toInt_eq_toNat_cond, BitVec.toNat_and]
    have : (255#32).toNat = 255 := rfl
    rw [this]
    have : x.toBitVec.toNat &&& 255 ≤ 255 := Nat.and_le_right
    split <;> omega
  have h2 : x.toBitVec.toNat &&& 255 ≤ 255 := Nat.and_le_right
  rw [Int32.le_iff_toInt_le, Int32.le_iff_toInt_le, h, e1]
  constructor
  · rw [show (0 : Int32).toInt = 0 from by decide]; omega
  · omega
theorem x_charF (y : Int32) : (((y.toUInt32 % 65536).toInt32).toUInt32.toUInt16.toUInt32.toInt32 == (y.toUInt32 % 65536).toInt32) = true := by
  have h : ((y.toUInt32 % 65536).toInt32).toUInt32.toUInt16.toUInt32 = y.toUInt32 % 65536 := by
    apply UInt32.toNat_inj.mp
    have : ((y.toUInt32 % 65536).toInt32).toUInt32 = y.toUInt32 % 65536 := rfl
    rw [this]
    simp
  rw [h]
  simp
theorem x_charF2 (y : Int32) : ((0:Int32) ≤ (y.toUInt32 % 65536).toInt32) ∧ (y.toUInt32 % 65536).toInt32 ≤ 65535 := by
  have h0 : (y.toUInt32 % 65536).toNat < 65536 := by
    rw [UInt32.toNat_mod, show (65536 : UInt32).toNat = 65536 from rfl]; omega
  have h : ((y.toUInt32 % 65536).toInt32).toInt = ((y.toUInt32 % 65536).toNat : Int) := by
    have : ((y.toUInt32 % 65536).toInt32).toInt = (y.toUInt32 % 65536).toBitVec.toInt := rfl
    rw [this, BitVec.toInt_eq_toNat_cond]
    have : (y.toUInt32 % 65536).toBitVec.toNat = (y.toUInt32 % 65536).toNat := rfl
    rw [this]
    split <;> omega
  rw [Int32.le_iff_toInt_le, Int32.le_iff_toInt_le, h, show (0 : Int32).toInt = 0 from by decide, show (65535 : Int32).toInt = 65535 from by decide]
  omega
theorem x_chF (y : Int32) : ab_ft .char (.int ((y.toUInt32 % 65536).toInt32)) = true := by
  have h := x_charF2 y
  simp only [ab_ft, fits, Bool.and_eq_true, decide_eq_true_eq]
  exact ⟨x_charF y, h⟩
theorem x_ci (x : Int32) : (Value.int x).category = 1 := rfl
theorem x_cr (x : Nat) : (Value.ref x).category = 1 := rfl
theorem x_cf (x : UInt32) : (Value.float x).category = 1 := rfl
theorem x_cn : Value.null.category = 1 := rfl
theorem x_cl2 (x : Int64) : (Value.long x).category = 2 := rfl
/-! strings, new and old -/
/-- a reference, not null -/
def x_rv (v : Value) : Prop := (∃ a, v = .ref a) ∨ (∃ w, v = .float w)
/-- a string's fields -/
def j_sv (h : ab_H) (v : Value) (F : List Value) : Prop := (∃ a, v = .ref a ∧ h[a]? = some (.inr (9, F))) ∨ (∃ w, v = .float w ∧ x_oo w.toNat = some (9, F))
/-- a row of bytes, new or old -/
def j_rw (e : xE) (h : ab_H) (r : Value) (n : Nat) (f : Nat → Int32) : Prop := (∃ q, r = .ref q ∧ h[q]? = some (.inl (0, n, fun j => .int (f j)))) ∨ (∃ w, r = .float w ∧ x_oa e.2.1 e.2.2.1 w.toNat = some (.byte, n, fun j => .int (f j)))
/-- a string of n bytes -/
def j_str (e : xE) (h : ab_H) (v : Value) (n : Nat) : Prop := ∃ F r f, j_sv h v F ∧ F[0]? = some r ∧ F[1]? = some (.int 0) ∧ j_rw e h r n f ∧ n ≤ 20000 ∧ ∀ (q : Nat), r = .ref q → e.2.2.2.2.2 ≤ q
theorem j_sv.rv {h : ab_H} {v : Value} {F : List Value} (k : j_sv h v F) : x_rv v := by
  rcases k with ⟨a, h1, h2⟩ | ⟨a, h1, h2⟩
  · exact Or.inl ⟨a, h1⟩
  · exact Or.inr ⟨a, h1⟩
theorem j_rw.rv {e : xE} {h : ab_H} {v : Value} {n : Nat} {f : Nat → Int32} (k : j_rw e h v n f) : x_rv v := by
  rcases k with ⟨a, h1, h2⟩ | ⟨a, h1, h2⟩
  · exact Or.inl ⟨a, h1⟩
  · exact Or.inr ⟨a, h1⟩
theorem j_str.rv {e : xE} {h : ab_H} {v : Value} {n : Nat} (k : j_str e h v n) : x_rv v := by
  obtain ⟨F, r, f, h1, -⟩ := k
  exact h1.rv
/-- what lies stays: strings hang on no object of class 3 -/
theorem j_sv.kept {h h' : ab_H} {v : Value} {F : List Value} {q : Nat} (hq : ∀ (k : Nat) (x : ab_E), h[k]? = some x → k ≠ q → h'[k]? = some x) {G : List Value} {ci : Nat} (hc : h[q]? = some (.inr (ci, G))) (h9 : ci ≠ 9) (k : j_sv h v F) : j_sv h' v F := by
  rcases k with ⟨a, h1, h2⟩ | k
  · exact Or.inl ⟨a, h1, hq a _ h2 (x_neq h2 hc (by simp; omega))⟩
  · exact Or.inr k
theorem j_rw.kept {e : xE} {h h' : ab_H} {v : Value} {n : Nat} {f : Nat → Int32} {q : Nat} (hq : ∀ (k : Nat) (x : ab_E), h[k]? = some x → k ≠ q → h'[k]? = some x) {G : List Value} {ci : Nat} (hc : h[q]? = some (.inr (ci, G))) (k : j_rw e h v n f) : j_rw e h' v n f := by
  rcases k with ⟨a, h1, h2⟩ | k
  · exact Or.inl ⟨a, h1, hq a _ h2 (x_neq h2 hc (by simp))⟩
  · exact Or.inr k
theorem j_str.kept {e : xE} {h h' : ab_H} {v : Value} {n : Nat} {q : Nat} (hq : ∀ (k : Nat) (x : ab_E), h[k]? = some x → k ≠ q → h'[k]? = some x) {G : List Value} {ci : Nat} (hc : h[q]? = some (.inr (ci, G))) (h9 : ci ≠ 9) (k : j_str e h v n) : j_str e h' v n := by
  obtain ⟨F, r, f, h1, h2, h3, h4, h5⟩ := k
  exact ⟨F, r, f, h1.kept hq hc h9, h2, h3, h4.kept hq hc, h5⟩
theorem j_str.ext {e : xE} {h h' : ab_H} {v : Value} {n : Nat} (hq : ∀ (k : Nat) (x : ab_E), h[k]? = some x → h'[k]? = some x) (k : j_str e h v n) : j_str e h' v n := by
  obtain ⟨F, r, f, h1, h2, h3, h4, h5⟩ := k
  refine ⟨F, r, f, ?_, h2, h3, ?_, h5⟩
  · rcases h1 with ⟨a, z, y⟩ | z
    · exact Or.inl ⟨a, z, hq _ _ y⟩
    · exact Or.inr z
  · rcases h4 with ⟨a, z, y⟩ | z
    · exact Or.inl ⟨a, z, hq _ _ y⟩
    · exact Or.inr z
section XS
variable {e : xE} {d mi pc len tg j x b n k nst : Nat} {L L' : ab_L} {S r' : List Value} {h : ab_H} {Q : ab_O → ab_H → Prop} {M N : ab_M} {fl v u r : Value} {F : List Value} {f : Nat → Int32} {mt : List ab_M} {pl : Nat → Option ab_N}
theorem xT.cast (eL : L = L') (t : xT e d mi pc L' S h Q) : xT e d mi pc L S h Q := by rw [eL]; exact t
theorem xT.al {i} (hM : (x_mt e.1)[mi]? = some M) (hf : ab_fe M pc = some (.aload_n i, len, tg)) (hg : ab_get L i = some v) (hv : x_rv v) (t : xT e d mi (pc + 1) L (v :: S) h Q) : xT e d mi pc L S h Q := by
  refine xT.s1 hM hf ?_ t
  rcases hv with ⟨a, rfl⟩ | ⟨w, rfl⟩ <;> simp only [ab_s1, hg]
theorem xT.al2 {i} (hM : (x_mt e.1)[mi]? = some M) (hf : ab_fe M pc = some (.aload i, len, tg)) (hg : ab_get L i = some v) (hv : x_rv v) (t : xT e d mi (pc + 2) L (v :: S) h Q) : xT e d mi pc L S h Q := by
  refine xT.s1 hM hf ?_ t
  rcases hv with ⟨a, rfl⟩ | ⟨w, rfl⟩ <;> simp only [ab_s1, hg]
theorem xT.as {i} (hM : (x_mt e.1)[mi]? = some M) (hf : ab_fe M pc = some (.astore_n i, len, tg)) (hi : (i : Nat) < my_l M) (hv : x_rv v) (t : xT e d mi (pc + 1) (ab_put1 L i v) S h Q) : xT e d mi pc L (v :: S) h Q := by
  refine xT.s1 hM hf ?_ t
  rcases hv with ⟨a, rfl⟩ | ⟨w, rfl⟩ <;> simp only [ab_s1, if_pos hi]
theorem xT.as2 {i} (hM : (x_mt e.1)[mi]? = some M) (hf : ab_fe M pc = some (.astore i, len, tg)) (hi : (i : Nat) < my_l M) (hv : x_rv v) (t : xT e d mi (pc + 2) (ab_put1 L i v) S h Q) : xT e d mi pc L (v :: S) h Q := by
  refine xT.s1 hM hf ?_ t
  rcases hv with ⟨a, rfl⟩ | ⟨w, rfl⟩ <;> simp only [ab_s1, if_pos hi]
theorem xT.sget (hM : (x_mt e.1)[mi]? = some M) (hf : ab_fe M pc = some (.getfield x, len, tg)) (hp : my_p M x = some (0, 9, b, fl)) (h7 : ab_th M pc = none) (h8 : ab_th0 M pc = none) (hs : j_sv h v F) (hb : F[b]? = some u) (t : xT e d mi (pc + 3) L (u :: S) h Q) : xT e d mi pc L (v :: S) h Q := by
  rcases hs with ⟨a, rfl, ha⟩ | ⟨w, rfl, hw⟩
  · exact xT.s2 hM hf rfl (x2_get hp (Or.inl rfl) ha hb) t
  · exact xT.s4 hM hf rfl (by simp only [ab_s2, hp]) rfl rfl rfl rfl h7 h8 (by simp only [ab_s4, hp, hw, hb, if_true]) t
theorem xT.rlen (hM : (x_mt e.1)[mi]? = some M) (hf : ab_fe M pc = some (.arraylength, len, tg)) (hr : j_rw e h r n f) (t : xT e d mi (pc + 1) L (.int (nI n) :: S) h Q) : xT e d mi pc L (r :: S) h Q := by
  rcases hr with ⟨a, rfl, ha⟩ | ⟨w, rfl, hw⟩
  · exact xT.s2 hM hf rfl (x2_alen ha (by decide)) t
  · exact xT.s2 hM hf rfl (by simp only [ab_s2, hw]; rfl) t
theorem xT.rba (hM : (x_mt e.1)[mi]? = some M) (hf : ab_fe M pc = some (.baload, len, tg)) (hr : j_rw e h r n f) (hk : k < n) (hn : n < 2 ^ 31) (t : xT e d mi (pc + 1) L (.int (f k) :: S) h Q) : xT e d mi pc L (.int (nI k) :: r :: S) h Q := by
  rcases hr with ⟨a, rfl, ha⟩ | ⟨w, rfl, hw⟩
  · exact xT.bald hM hf ha hk hn t
  · refine xT.s2 hM hf rfl (pc' := pc + 1) (S' := .int (f k) :: S) (h2 := h) ?_ t
    simp only [ab_s2, ab_ald, hw]
    rw [if_pos ⟨trivial, x_ixN hk hn⟩, x_clampN (by omega)]
theorem x_rv.lv1 (hv : x_rv v) : (lg_sl [v]).length = 1 := by rcases hv with ⟨a, rfl⟩ | ⟨w, rfl⟩ <;> rfl
theorem x_rv.lv2 (hv : x_rv v) (u : Value) : lv_args 0 [v, u] = [(0, v), (1, u)] := by rcases hv with ⟨a, rfl⟩ | ⟨w, rfl⟩ <;> rfl
theorem x_rv.sl2 (hv : x_rv v) (hu : u.category = 1) : (lg_sl [v, u]).length = 2 := by
  rcases hv with ⟨a, rfl⟩ | ⟨w, rfl⟩
  · have h1 : (Value.ref a).category = 1 := rfl
    simp [lg_sl, hu, h1]
  · have h1 : (Value.float w).category = 1 := rfl
    simp [lg_sl, hu, h1]
theorem x_rv.cat (hv : x_rv v) : v.category = 1 := by rcases hv with ⟨a, rfl⟩ | ⟨w, rfl⟩ <;> rfl
theorem xc_sv (hp : pl x = some (1, j, 2, u)) (hN : mt[j]? = some N) (hd : S.drop (my_n N) = v :: r') (hs : j_sv h v F) (hc : my_s N = false ∧ my_n N ≤ S.length ∧ (my_y N).cls = "java/lang/String") : ab_call x_cl x_oo mt pl (.invokevirtual x) S h = some (j, v :: (S.take (my_n N)).reverse, r') := by
  have e9 : (x_cl[9]?).map (fun z => z.1) = some (my_y N).cls := by rw [hc.2.2]; rfl
  rcases hs with ⟨a, rfl, ha⟩ | ⟨w, rfl, hw⟩
  · exact xc_virt hp hN hd ha ⟨hc.1, hc.2.1, e9, Or.inl rfl⟩
  · have z1 : ab_cs x_cl mt pl (.invokevirtual x) S h = none := by simp only [ab_cs, hp, hN, hd]
    unfold ab_call
    rw [z1]
    simp only [ab_cs5, hp, hN, hd, hw]
    rw [if_pos ⟨hc.1, hc.2.1, e9, trivial⟩]
theorem j_coder (hS : j_str e h v n) : xT e d 72 0 [(0, v)] [] h (fun o h' => ∃ v, o = .inl v ∧ v = some (.int 0) ∧ h' = h) := by
  obtain ⟨F, r, f, hs, f0, f1, hr, hn⟩ := hS
  have hv := hs.rv
  have hM : (x_mt e.1)[72]? = some xM72 := rfl
  refine xT.s4 hM rfl rfl rfl rfl rfl rfl rfl rfl rfl rfl ?_
  refine xT.s1 hM rfl rfl ?_
  refine xT.brF (by decide) ?_
  refine xT.al hM rfl rfl hv ?_
  refine xT.sget hM rfl rfl rfl rfl hs f1 ?_
  refine xT.s1 hM rfl rfl ?_
  exact xT.ret hM rfl rfl rfl rfl (⟨_, rfl, rfl, rfl⟩)
theorem j_isL (hS : j_str e h v n) : xT e d 73 0 [(0, v)] [] h (fun o h' => ∃ v, o = .inl v ∧ v = some (.int 1) ∧ h' = h) := by
  obtain ⟨F, r, f, hs, f0, f1, hr, hn⟩ := hS
  have hv := hs.rv
  have hM : (x_mt e.1)[73]? = some xM73 := rfl
  refine xT.s4 hM rfl rfl rfl rfl rfl rfl rfl rfl rfl rfl ?_
  refine xT.s1 hM rfl rfl ?_
  refine xT.brF (by decide) ?_
  refine xT.al hM rfl rfl hv ?_
  refine xT.sget hM rfl rfl rfl rfl hs f1 ?_
  refine xT.s1 hM rfl rfl ?_
  refine xT.brT (rfl) ?_
  refine xT.s1 hM rfl rfl ?_
  refine xT.s1 hM rfl rfl ?_
  exact xT.ret hM rfl rfl rfl rfl (⟨_, rfl, rfl, rfl⟩)
theorem j_len (hS : j_str e h v n) : xT e (d + 1) 71 0 [(0, v)] [] h (fun o h' => ∃ v, o = .inl v ∧ v = some (.int (nI n)) ∧ h' = h) := by
  obtain ⟨F, r, f, hs, f0, f1, hr, hn⟩ := id hS
  have hv := hs.rv
  have hM : (x_mt e.1)[71]? = some xM71 := rfl
  refine xT.al hM rfl rfl hv ?_
  refine xT.sget hM rfl rfl rfl rfl hs f0 ?_
  refine xT.rlen hM rfl hr ?_
  refine xT.al hM rfl rfl hv ?_
  refine xT.go hM rfl rfl rfl rfl rfl rfl (xc_sv rfl rfl rfl hs ⟨rfl, Nat.le_of_ble_eq_true rfl, rfl⟩) rfl ⟨Nat.le_of_ble_eq_true rfl, by show (lg_sl [v]).length ≤ _; rw [hv.lv1]; decide, by decide⟩ (j_coder hS) (fun v h2 hw => ?_)
  obtain ⟨rfl, hh2⟩ := hw
  subst h2
  refine xT.s1 hM rfl rfl ?_
  rw [x_shr0]
  exact xT.ret hM rfl rfl rfl rfl (⟨_, rfl, rfl, rfl⟩)
theorem j_cidx {u : Value} (hk : k < n) (hn : n < 2 ^ 31) : xT e d 70 0 [(0, .int (nI k)), (1, .int (nI n)), (2, u)] [] h (fun o h' => ∃ v, o = .inl v ∧ v = some (.int (nI k)) ∧ h' = h) := by
  have hM : (x_mt e.1)[70]? = some xM70 := rfl
  refine xT.s1 hM rfl rfl ?_
  refine xT.s1 hM rfl rfl ?_
  refine xT.brF (nI_pos (by omega)) ?_
  refine xT.s1 hM rfl rfl ?_
  refine xT.s1 hM rfl rfl ?_
  refine xT.s1 hM rfl rfl ?_
  refine xT.brT (nI_lt hk hn) ?_
  refine xT.s1 hM rfl rfl ?_
  exact xT.ret hM rfl rfl rfl rfl (⟨_, rfl, rfl, rfl⟩)
theorem j_sidx (hE : e.1 = .null ∨ ∃ w, e.1 = .float w) (hk : k < n) (hn : n < 2 ^ 31) : xT e (d + 1) 75 0 [(0, .int (nI k)), (1, .int (nI n))] [] h (fun o h' => ∃ v, o = .inl v ∧ v = none ∧ h' = h) := by
  have hM : (x_mt e.1)[75]? = some (xM75 e.1) := rfl
  refine xT.s1 hM rfl rfl ?_
  refine xT.s1 hM rfl rfl ?_
  refine xT.s4 hM rfl rfl rfl rfl rfl rfl rfl rfl rfl rfl ?_
  refine xT.go hM rfl rfl rfl rfl rfl rfl (xc_stat rfl rfl ⟨rfl, Nat.le_of_ble_eq_true rfl⟩) rfl ⟨Nat.le_of_ble_eq_true rfl, ?_, by decide⟩ (j_cidx hk hn) (fun v h2 hv => ?_)
  · rcases hE with z | ⟨w, z⟩ <;> (show (lg_sl [Value.int (nI k), .int (nI n), e.1]).length ≤ 3; rw [z]; exact Nat.le_of_ble_eq_true rfl)
  obtain ⟨rfl, hh2⟩ := hv
  subst h2
  refine xT.s1 hM rfl rfl ?_
  exact xT.ret hM rfl rfl rfl rfl (⟨_, rfl, rfl, rfl⟩)
theorem j_charL (hE : e.1 = .null ∨ ∃ w, e.1 = .float w) (hr : j_rw e h r n f) (hk : k < n) (hn : n < 2 ^ 31) : xT e (d + 2) 79 0 [(0, r), (1, .int (nI k))] [] h (fun o h' => ∃ v, o = .inl v ∧ v = some (.int (((f k &&& (Int16.ofInt 255).toInt32).toUInt32 % 65536).toInt32)) ∧ h' = h) := by
  have hM : (x_mt e.1)[79]? = some xM79 := rfl
  refine xT.s1 hM rfl rfl ?_
  refine xT.al hM rfl rfl hr.rv ?_
  refine xT.rlen hM rfl hr ?_
  refine xT.go hM rfl rfl rfl rfl rfl rfl (xc_stat rfl rfl ⟨rfl, Nat.le_of_ble_eq_true rfl⟩) rfl ⟨Nat.le_of_ble_eq_true rfl, Nat.le_of_ble_eq_true rfl, by decide⟩ (j_sidx hE hk hn) (fun v h2 hv => ?_)
  obtain ⟨rfl, hh2⟩ := hv
  subst h2
  refine xT.al hM rfl rfl hr.rv ?_
  refine xT.s1 hM rfl rfl ?_
  refine xT.rba hM rfl hr hk hn ?_
  refine xT.s1 hM rfl rfl ?_
  refine xT.s1 hM rfl rfl ?_
  refine xT.s1 hM rfl rfl ?_
  exact xT.ret hM rfl rfl rfl (by show (if ab_ft .char (.int _) = true then some (some _) else none) = _; rw [if_pos (x_chF _)]) ⟨_, rfl, rfl, rfl⟩
theorem j_charAt (hE : e.1 = .null ∨ ∃ w, e.1 = .float w) (hS : j_str e h v n) (hk : k < n) : xT e (d + 3) 74 0 [(0, v), (1, .int (nI k))] [] h (fun o h' => ∃ v, o = .inl v ∧ ∃ z : Int32, v = some (.int z) ∧ h' = h) := by
  obtain ⟨F, r, f, hs, f0, f1, hr, hn⟩ := id hS
  have hv := hs.rv
  have hM : (x_mt e.1)[74]? = some xM74 := rfl
  refine xT.al hM rfl rfl hv ?_
  refine xT.go hM rfl rfl rfl rfl rfl rfl (xc_sv rfl rfl rfl hs ⟨rfl, Nat.le_of_ble_eq_true rfl, rfl⟩) rfl ⟨Nat.le_of_ble_eq_true rfl, by show (lg_sl [v]).length ≤ _; rw [hv.lv1]; decide, by decide⟩ (j_isL hS) (fun v h2 hw => ?_)
  obtain ⟨rfl, hh2⟩ := hw
  subst h2
  refine xT.s1 hM rfl rfl ?_
  refine xT.brF (by decide) ?_
  refine xT.al hM rfl rfl hv ?_
  refine xT.sget hM rfl rfl rfl rfl hs f0 ?_
  refine xT.s1 hM rfl rfl ?_
  refine xT.go hM rfl rfl rfl rfl rfl rfl (xc_stat rfl rfl ⟨rfl, Nat.le_of_ble_eq_true rfl⟩) rfl ⟨Nat.le_of_ble_eq_true rfl, by show (lg_sl [r, Value.int (nI k)]).length ≤ 2; rw [hr.rv.sl2 rfl]; decide, by decide⟩ (xT.cast (hr.rv.lv2 _) (j_charL hE hr hk (by omega))) (fun v h2 hw => ?_)
  obtain ⟨rfl, hh2⟩ := hw
  subst h2
  exact xT.ret hM rfl rfl rfl (by show (if ab_ft .char (.int _) = true then some (some _) else none) = _; rw [if_pos (x_chF _)]) ⟨_, rfl, _, rfl, rfl⟩
end XS
