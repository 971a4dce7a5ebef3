/-! more locals do no harm -/
def ab_le (L L' : ab_L) : Prop := (∀ x ∈ L, x ∈ L') ∧ (L'.map (fun q => q.1)).Nodup
theorem ab_nd_get {L : ab_L} (hn : (L.map (fun q => q.1)).Nodup) {k : Nat} {v : Value} (hm : (k, v) ∈ L) : ab_get L k = some v := by
  induction L with
  | nil => cases hm
  | cons x r ih =>
    obtain ⟨k', v'⟩ := x
    rw [List.map_cons, List.nodup_cons] at hn
    unfold ab_get
    rw [List.find?_cons]
    by_cases hk : k' = k
    · subst hk
      rcases List.mem_cons.mp hm with e | e
      · cases e; simp
      · exact absurd (List.mem_map.mpr ⟨_, e, rfl⟩) hn.1
    · have : ((k', v').1 == k) = false := by simpa using hk
      rw [this]
      rcases List.mem_cons.mp hm with e | e
      · cases e; exact absurd rfl hk
      · exact ih hn.2 e
theorem ab_le.get {L L' : ab_L} (h : ab_le L L') {k : Nat} {v : Value} (hg : ab_get L k = some v) : ab_get L' k = some v := ab_nd_get h.2 (h.1 _ (ab_get_mem hg))
theorem ab_le.put1 {L L' : ab_L} (h : ab_le L L') (i : Nat) (v : Value) : ab_le (ab_put1 L i v) (ab_put1 L' i v) := by
  refine ⟨fun x hx => ?_, ?_⟩
  · rcases List.mem_cons.mp hx with e | e
    · rw [e]; exact List.mem_cons_self
    · obtain ⟨e1, e2⟩ := List.mem_filter.mp e
      exact List.mem_cons_of_mem _ (List.mem_filter.mpr ⟨h.1 _ e1, e2⟩)
  · unfold ab_put1
    rw [List.map_cons, List.nodup_cons]
    refine ⟨fun hm => ?_, (h.2.sublist ((List.filter_sublist).map _))⟩
    obtain ⟨x, hx, e⟩ := List.mem_map.mp hm
    have z := (List.mem_filter.mp hx).2
    simp only [Bool.and_eq_true, Bool.not_eq_true', beq_eq_false_iff_ne] at z
    exact z.1 e
theorem ab_le.put2 {L L' : ab_L} (h : ab_le L L') (i : Nat) (v : Value) : ab_le (ab_put2 L i v) (ab_put2 L' i v) := by
  refine ⟨fun x hx => ?_, ?_⟩
  · rcases List.mem_cons.mp hx with e | e
    · rw [e]; exact List.mem_cons_self
    · obtain ⟨e1, e2⟩ := List.mem_filter.mp e
      exact List.mem_cons_of_mem _ (List.mem_filter.mpr ⟨h.1 _ e1, e2⟩)
  · unfold ab_put2
    rw [List.map_cons, List.nodup_cons]
    refine ⟨fun hm => ?_, (h.2.sublist ((List.filter_sublist).map _))⟩
    obtain ⟨x, hx, e⟩ := List.mem_map.mp hm
    have z := (List.mem_filter.mp hx).2
    simp only [Bool.and_eq_true, Bool.not_eq_true', beq_eq_false_iff_ne] at z
    exact z.1 e
/-- the instructions that read a local -/
def ab_ld (i : Instr) : Bool := match i with
  | .iload_n _ => true
  | .iload _ => true
  | .lload_n _ => true
  | .lload _ => true
  | .aload_n _ => true
  | .aload _ => true
  | .iinc _ _ => true
  | _ => false
set_option maxHeartbeats 8000000 in
theorem ab_s1_some {nL pc tg pc' : Nat} {i : Instr} {L L' L1 : ab_L} {S S' : List Value} (hR : ab_le L L') (h : ab_s1 nL i pc tg L S = some (pc', L1, S')) : ∃ L1', ab_s1 nL i pc tg L' S = some (pc', L1', S') ∧ ab_le L1 L1' := by
  unfold ab_s1 at h
  split at h
  all_goals (repeat' split at h)
  all_goals first
    | (cases h; done)
    | (cases h; exact ⟨_, rfl, hR⟩)
    | (rename_i hg; have hz := hR.get hg; cases h; exact ⟨L', by simp only [ab_s1, hz], hR⟩)
    | (rename_i hl; cases h; exact ⟨_, by unfold ab_s1; exact if_pos hl, hR.put1 _ _⟩)
    | (rename_i hl; cases h; exact ⟨_, by unfold ab_s1; exact if_pos hl, hR.put2 _ _⟩)
    | (rename_i hl; cases h; exact ⟨_, by unfold ab_s1; exact if_pos hl, hR⟩)
    | (rename_i hl; cases h; exact ⟨_, by unfold ab_s1; exact if_neg hl, hR⟩)
    | (rename_i hg hl; have hz := hR.get hg; cases h; exact ⟨ab_put1 L' _ _, by simp only [ab_s1, hz]; exact if_pos hl, hR.put1 _ _⟩)
    | (rename_i hl; cases h; refine ⟨L', ?_, hR⟩; simp only [ab_s1]; rw [if_pos hl]; done)
    | (rename_i hl; cases h; refine ⟨L', ?_, hR⟩; simp only [ab_s1]; rw [if_neg hl]; done)
    | (cases h; exact ⟨_, by unfold ab_s1; simp_all, hR⟩)
set_option maxHeartbeats 8000000 in
theorem ab_s1_none {nL pc tg : Nat} {i : Instr} {L : ab_L} (L' : ab_L) {S : List Value} (hi : ab_ld i = false) (h : ab_s1 nL i pc tg L S = none) : ab_s1 nL i pc tg L' S = none := by
  unfold ab_s1 at h ⊢
  split at h
  all_goals first
    | (cases hi; done)
    | (cases h; done)
    | exact h
    | ((repeat' split at h) <;> first | (cases h; done) | rfl | (simp_all; done))
theorem ab_ld_none {nL pc tg : Nat} {i : Instr} {L : ab_L} {S : List Value} {h : ab_H} (hi : ab_ld i = true) {cl : List vw_C} {ct : Nat → Nat → FieldType} {cd : Nat → List Value} {aty : List FieldType} {oa : Nat → Option (FieldType × Nat × (Nat → Value))} {oo : Nat → Option (Nat × List Value)} {sb : List (Nat × Nat)} {NC NS : Nat} {pl : Nat → Option ab_N} {ini : Bool} {M : ab_M} {mt : List ab_M} :
    ab_s2 cl ct cd aty oa NC NS pl ini i pc S h = none ∧ ab_rt M i S = none ∧ ab_sw pc i S = none ∧ ab_ob pl i S = none ∧ ab_call cl oo mt pl i S h = none ∧ ab_s4 aty oa sb oo NC NS pl i pc tg S h = none ∧ ab_s5 aty sb oo NC NS pl i pc S h = none := by
  cases i <;> first | (cases hi; done) | (refine ⟨rfl, ?_, rfl, rfl, rfl, rfl, rfl⟩; cases S <;> rfl)
theorem ab_th_none {M : ab_M} {pc len tg : Nat} {i : Instr} (hi : ab_ld i = true) (hf : ab_fe M pc = some (i, len, tg)) : ab_th M pc = none ∧ ab_th0 M pc = none := by
  unfold ab_th ab_th0
  rw [hf]
  cases i <;> first | (cases hi; done) | exact ⟨rfl, rfl⟩
set_option maxHeartbeats 4000000 in
theorem ab_weak {cl : List vw_C} {ct : Nat → Nat → FieldType} {cd : Nat → List Value} {aty : List FieldType} {oa : Nat → Option (FieldType × Nat × (Nat → Value))} {oo : Nat → Option (Nat × List Value)} {sb : List (Nat × Nat)} {NC NS : Nat} {nc : List (Nat × Nat)} {mt : List ab_M} : ∀ (n d mi pc : Nat) (L L' : ab_L) (S : List Value) (h : ab_H) (r : ab_O × ab_H), ab_le L L' → ab_run cl ct cd aty oa oo sb NC NS nc mt n d mi pc L S h = some r → ab_run cl ct cd aty oa oo sb NC NS nc mt n d mi pc L' S h = some r := by
  intro n
  induction n with
  | zero => intro d mi pc L L' S h r hR hs; simp [ab_run] at hs
  | succ n ih =>
    intro d mi pc L L' S h r hR hs
    rw [ab_run] at hs ⊢
    cases hM : mt[mi]? with
    | none => rw [hM] at hs; cases hs
    | some M =>
      rw [hM] at hs
      dsimp only at hs ⊢
      cases hf : ab_fe M pc with
      | none => rw [hf] at hs; cases hs
      | some z =>
        obtain ⟨i, len, tg⟩ := z
        rw [hf] at hs
        dsimp only at hs ⊢
        cases h1 : ab_s1 (my_l M) i pc tg L S with
        | some z =>
          obtain ⟨pc', L1, S'⟩ := z
          obtain ⟨L1', e1, e2⟩ := ab_s1_some hR h1
          rw [h1] at hs
          rw [e1]
          exact ih _ _ _ _ _ _ _ _ e2 hs
        | none =>
          rw [h1] at hs
          dsimp only at hs
          by_cases hi : ab_ld i = true
          · obtain ⟨k1, k2, k3, k4, k5, k6, k7⟩ := ab_ld_none (nL := 0) (pc := pc) (tg := tg) (L := []) (S := S) (h := h) hi (cl := cl) (ct := ct) (cd := cd) (aty := aty) (oa := oa) (oo := oo) (sb := sb) (NC := NC) (NS := NS) (pl := my_p M) (ini := (my_y M).name == "<init>") (M := M) (mt := mt)
            obtain ⟨k8, k9⟩ := ab_th_none hi hf
            simp only [k1, k2, k3, k4, k5, k6, k7, k8, k9] at hs
            cases hs
          · rw [ab_s1_none L' (by simpa using hi) h1]
            (try dsimp only)
            split at hs
            · rename_i z hz; (try rw [hz]); exact ih _ _ _ _ _ _ _ _ hR hs
            · rename_i hz
              (try rw [hz])
              (try dsimp only)
              split at hs
              · rename_i z hz; (try rw [hz]); exact hs
              · rename_i hz
                (try rw [hz])
                (try dsimp only)
                split at hs
                · rename_i z hz; (try rw [hz]); exact ih _ _ _ _ _ _ _ _ hR hs
                · rename_i hz
                  (try rw [hz])
                  (try dsimp only)
                  split at hs
                  · rename_i z hz; (try rw [hz]); exact ih _ _ _ _ _ _ _ _ hR hs
                  · rename_i hz
                    (try rw [hz])
                    (try dsimp only)
                    split at hs
                    · rename_i j as rr hz
                      (try rw [hz])
                      (try dsimp only)
                      split at hs
                      · rename_i d' N hN
                        (try rw [hN])
                        (try dsimp only)
                        split at hs
                        · rename_i hc
                          (try rw [if_pos hc])
                          split at hs
                          · rename_i v h2 hr; (try rw [hr]); exact ih _ _ _ _ _ _ _ _ hR hs
                          · rename_i ce q h2 hr
                            (try rw [hr])
                            (try dsimp only)
                            split at hs
                            · rename_i hh; (try rw [if_pos hh]); exact hs
                            · rename_i hh
                              (try rw [if_neg hh])
                              split at hs
                              · rename_i hx
                                (try rw [if_pos hx])
                                split at hs
                                · rename_i hp hd; (try rw [hd]); exact ih _ _ _ _ _ _ _ _ hR hs
                                · cases hs
                              · cases hs
                          · cases hs
                        · cases hs
                      · cases hs
                    · rename_i hz
                      (try rw [hz])
                      (try dsimp only)
                      split at hs
                      · rename_i ce x1 x2 x3 hz; (try rw [hz]); exact hs
                      · rename_i hz
                        (try rw [hz])
                        (try dsimp only)
                        split at hs
                        · rename_i ce x1 x3 hz; (try rw [hz]); exact hs
                        · rename_i hz
                          (try rw [hz])
                          (try dsimp only)
                          split at hs
                          · rename_i z hz; (try rw [hz]); exact ih _ _ _ _ _ _ _ _ hR hs
                          · rename_i hz
                            (try rw [hz])
                            (try dsimp only)
                            split at hs
                            · rename_i z hz; (try rw [hz]); exact ih _ _ _ _ _ _ _ _ hR hs
                            · cases hs
/-- fewer locals are enough -/
theorem xT.weak {e : xE} {d mi pc : Nat} {L L' : ab_L} {S : List Value} {h : ab_H} {Q : ab_O → ab_H → Prop} (hR : ab_le L L') (t : xT e d mi pc L S h Q) : xT e d mi pc L' S h Q := by
  obtain ⟨o, h', ⟨K, hr⟩, q⟩ := t
  exact ⟨o, h', ⟨K, fun n => ab_weak _ _ _ _ _ _ _ _ _ hR (hr n)⟩, q⟩
