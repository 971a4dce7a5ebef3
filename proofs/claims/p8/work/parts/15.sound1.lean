section AB5
variable {p : Program} {l : Launch} {e : Env} {R : Room} {s : State} {m : MethodId} {args : Array Value} {below : List Frame} {meth : Method} {c : Code} {T : State} {H : Heap} {locs : List Loc} {cells slots : Nat} {Q : State → Prop}
variable {B n0 z0 NC NS pc len : Nat} {od : Nat → Nat} {h h' : ab_H} {D : va_G} {dA : Nat → ClassId} {cl : List vw_C} {M : ab_M} {i : Instr} {S S' : List Value} {ls : Array Slot} {cc : ByteArray}
theorem ab_W.mono {Q' : State → Prop} {g : JFrame} (w : W p l e R s m args below meth c H locs cells slots Q g) (hq : ∀ t, Q t → Q' t) : W p l e R s m args below meth c H locs cells slots Q' g := fun T hT X => by
  obtain ⟨t, a, b⟩ := w T hT X
  exact ⟨t, a, hq t b⟩
theorem ab_MQ (hR : ab_R B od D dA cl NC NS s.heap n0 z0 h H locs cells slots) {o : ab_O} {t : State} (hq : MQ below (fun _ _ oc t => oc = ab_o B od o ∧ t.heap = H) args s cells slots (fun q => B ≤ q) t) : ab_Q below s B od D dA cl NC NS n0 z0 o h t := by
  obtain ⟨oc, h1, h2, ⟨h3, h4⟩, L, ⟨-, h6, h7⟩, h8⟩ := hq
  subst h3
  refine ⟨h1, h2, h6, L, cells, slots, h7, ?_⟩
  rw [h4]
  exact ⟨hR.1, hR.2.1, ⟨hR.2.2.1.1, hR.2.2.1.2.1, h8⟩, hR.2.2.2⟩
set_option maxHeartbeats 2000000 in
theorem ab_rt_ok (hx : p.tables.exec = Jvm.exec) (hb : c.code = cc) (hr : meth.sig.returnType = my_r M) (hlocks : meth.locks = false) (hdg : decode cc pc = .ok (i, len)) (hlen : ab_len i = 0 ∨ len = ab_len i) {v : Option Value} (hs : ab_rt M i S = some v) (hR : ab_R B od D dA cl NC NS s.heap n0 z0 h H locs cells slots) :
    W p l e R s m args below meth c H locs cells slots (ab_Q below s B od D dA cl NC NS n0 z0 (.inl v) h) (F0 m pc ls (S.map (ab_v B od))) := by
  have hf : ∀ q ∈ locs, B ≤ q.base := hR.2.2.1.2.2
  unfold ab_rt at hs
  split at hs
  · rename_i x
    have hl : len = 1 := by rcases hlen with q | q; exact absurd q (by decide); exact q
    subst hl
    split at hs
    · rename_i ty hty
      split at hs
      · rename_i hft
        cases hs
        exact ab_W.mono (W.zret (v := x) (Qc := fun _ _ oc t => oc = ab_o B od (.inl (some (.int x))) ∧ t.heap = H) (free := fun q => B ≤ q) hx hb (hr.trans hty) (ab_ft_ok (B := B) (od := od) hft).1 (fun t ht _ => ⟨rfl, ht⟩) hf hdg) (fun t => ab_MQ hR)
      · cases hs
    · cases hs
  · rename_i x
    have hl : len = 1 := by rcases hlen with q | q; exact absurd q (by decide); exact q
    subst hl
    split at hs
    · rename_i hty
      cases hs
      exact ab_W.mono (W.lret (v := x) (Qc := fun _ _ oc t => oc = ab_o B od (.inl (some (.long x))) ∧ t.heap = H) (free := fun q => B ≤ q) hx hb (hr.trans hty) (fun t ht _ => ⟨rfl, ht⟩) hf hdg) (fun t => ab_MQ hR)
    · cases hs
  · rename_i x
    have hl : len = 1 := by rcases hlen with q | q; exact absurd q (by decide); exact q
    subst hl
    split at hs
    · rename_i nm hty
      cases hs
      exact ab_W.mono (W.aret (v := .ref (B + x)) (Qc := fun _ _ oc t => oc = ab_o B od (.inl (some (.ref x))) ∧ t.heap = H) (free := fun q => B ≤ q) hx hb (hr.trans hty) (Or.inl ⟨_, rfl⟩) (Or.inr ⟨_, rfl⟩) (fun t ht _ => ⟨rfl, ht⟩) hf hdg) (fun t => ab_MQ hR)
    · rename_i nm hty
      cases hs
      exact ab_W.mono (W.aret (v := .ref (B + x)) (Qc := fun _ _ oc t => oc = ab_o B od (.inl (some (.ref x))) ∧ t.heap = H) (free := fun q => B ≤ q) hx hb (hr.trans hty) (Or.inr ⟨_, rfl⟩) (Or.inr ⟨_, rfl⟩) (fun t ht _ => ⟨rfl, ht⟩) hf hdg) (fun t => ab_MQ hR)
    · cases hs
  · have hl : len = 1 := by rcases hlen with q | q; exact absurd q (by decide); exact q
    subst hl
    split at hs
    · rename_i nm hty
      cases hs
      exact ab_W.mono (W.aret (v := .null) (Qc := fun _ _ oc t => oc = ab_o B od (.inl (some .null)) ∧ t.heap = H) (free := fun q => B ≤ q) hx hb (hr.trans hty) (Or.inl ⟨_, rfl⟩) (Or.inl rfl) (fun t ht _ => ⟨rfl, ht⟩) hf hdg) (fun t => ab_MQ hR)
    · rename_i nm hty
      cases hs
      exact ab_W.mono (W.aret (v := .null) (Qc := fun _ _ oc t => oc = ab_o B od (.inl (some .null)) ∧ t.heap = H) (free := fun q => B ≤ q) hx hb (hr.trans hty) (Or.inr ⟨_, rfl⟩) (Or.inl rfl) (fun t ht _ => ⟨rfl, ht⟩) hf hdg) (fun t => ab_MQ hR)
    · cases hs
  · have hl : len = 1 := by rcases hlen with q | q; exact absurd q (by decide); exact q
    subst hl
    split at hs
    · rename_i hty
      cases hs
      exact ab_W.mono (W.vret (Qc := fun _ _ oc t => oc = ab_o B od (.inl none) ∧ t.heap = H) (free := fun q => B ≤ q) hx hb (hr.trans hty) (fun t ht _ => ⟨rfl, ht⟩) hf hdg) (fun t => ab_MQ hR)
    · cases hs
  · cases hs
theorem ab_sw_ok (hx : p.tables.exec = Jvm.exec) (hb : c.code = cc) (hdg : decode cc pc = .ok (i, len)) {pc' : Nat} (hs : ab_sw pc i S = some (pc', S'))
    (k : W p l e R s m args below meth c H locs cells slots Q (F0 m pc' ls (S'.map (ab_v B od)))) : W p l e R s m args below meth c H locs cells slots Q (F0 m pc ls (S.map (ab_v B od))) := by
  unfold ab_sw at hs
  split at hs
  · rename_i dflt lo hi offs x r
    split at hs
    · rename_i hc
      split at hs
      · rename_i h0
        cases hs
        exact lv_tableOut hx hb hdg hc (by omega) k
      · cases hs
    · rename_i hc
      split at hs
      · rename_i off ho
        split at hs
        · rename_i h0
          cases hs
          exact lv_tableIn hx hb hdg (fun q => hc (Or.inl q)) (fun q => hc (Or.inr q)) ho (by omega) k
        · cases hs
      · cases hs
  · rename_i dflt ps x r
    split at hs
    · rename_i hc
      cases hs
      exact lv_lookup hx hb hdg hc.1 rfl (by omega) k
    · cases hs
  · cases hs
theorem ab_ob_ok (hx : p.tables.exec = Jvm.exec) (hb : c.code = cc) {own : String} (hown : s.vm.findClass own = some m.cls) {pl : Nat → Option ab_N} (hml : ls.size = c.maxLocals) (hfr : 1 ≤ R.frames) (hlo : 40 ≤ R.locals)
    (h5 : ∀ x a b v, pl x = some (5, a, b, v) → va_Nw (.methodLink own x Lib.objectInit) s ∧ va_Nw (.instanceMethod Lib.objectInit) s ∧ va_Nw (.code Lib.objectInit ⟨#[0xb1]⟩ 1 none) s)
    (hdg : decode cc pc = .ok (i, len)) (hlen : ab_len i = 0 ∨ len = ab_len i) (hs : ab_ob pl i S = some S')
    (k : W p l e R s m args below meth c H locs cells slots Q (F0 m (pc + 3) ls (S'.map (ab_v B od)))) : W p l e R s m args below meth c H locs cells slots Q (F0 m pc ls (S.map (ab_v B od))) := by
  unfold ab_ob at hs
  split at hs
  · rename_i x
    have hl : len = 3 := by rcases hlen with q | q; exact absurd q (by simp [ab_len]); exact q
    subst hl
    split at hs
    · rename_i a b v j r hp
      split at hs
      · rename_i hw
        cases hs
        obtain ⟨w1, w2, w3⟩ := h5 _ _ _ _ hp
        have e1 : ((S'.map (ab_v B od)).map fun v => v.category) = (S'.map fun v => v.category) := by
          rw [List.map_map]
          apply List.map_congr_left
          intro v _
          exact ab_v_cat B od v
        have e2 : ((S'.map (ab_v B od)).map fun v => v.category).sum ≤ 20 := by rw [e1]; exact hw
        refine W.objInit hx hb hown (va_Nw.use rfl w1) (va_Nw.use rfl w2) (va_Nw.use rfl w3) rfl hml rfl hdg hfr ?_ k
        have e3 : (F0 m pc ls (List.map (ab_v B od) (Value.ref j :: S'))).monitorRoom = 0 := rfl
        rw [e3]
        omega
      · cases hs
    · cases hs
  · cases hs
end AB5
