/-! no node is made by the reference or the JDK -/
/-- objects of class 10 are the old ones -/
def x_N10 (h h' : ab_H) : Prop := ∀ (k : Nat) (G : List Value), h'[k]? = some (.inr (10, G)) → ∃ G', h[k]? = some (.inr (10, G'))
theorem x_N10.rf (h : ab_H) : x_N10 h h := fun _ G hk => ⟨G, hk⟩
theorem x_N10.tr {h h1 h2 : ab_H} (a : x_N10 h h1) (b : x_N10 h1 h2) : x_N10 h h2 := fun k G hk => by
  obtain ⟨G', h'⟩ := b k G hk
  exact a k G' h'
theorem x_N10.sl {h : ab_H} {j : Nat} {y : Nat × Nat × (Nat → Value)} : x_N10 h (h.set j (.inl y)) := fun k G hk => by
  by_cases hj : j = k
  · subst hj
    have hl := (List.getElem?_eq_some_iff.mp hk).1
    rw [List.length_set] at hl
    rw [List.getElem?_set_self hl] at hk
    cases hk
  · rw [List.getElem?_set_ne hj] at hk
    exact ⟨G, hk⟩
theorem x_N10.sr {h : ab_H} {j ci : Nat} {fs fs' : List Value} (hj : h[j]? = some (.inr (ci, fs))) : x_N10 h (h.set j (.inr (ci, fs'))) := fun k G hk => by
  by_cases hjk : j = k
  · subst hjk
    have hl := (List.getElem?_eq_some_iff.mp hk).1
    rw [List.length_set] at hl
    rw [List.getElem?_set_self hl] at hk
    cases hk
    exact ⟨fs, hj⟩
  · rw [List.getElem?_set_ne hjk] at hk
    exact ⟨G, hk⟩
theorem x_N10.ap {h : ab_H} {x : ab_E} (hx : ∀ G, x ≠ .inr (10, G)) : x_N10 h (h ++ [x]) := fun k G hk => ⟨G, x_rev_nw rfl hx hk⟩
/-- what a pool may hold: calls of these methods, no making of nodes -/
def x_n10 (n : ab_N) : Bool := match n with
  | (1, j, _, _) => Nat.ble 10 j && Nat.ble j 92
  | (20, j, _, _) => Nat.ble 10 j && Nat.ble j 92
  | (21, j, _, _) => Nat.ble 10 j && Nat.ble j 92
  | (2, ci, _, _) => !(Nat.beq ci 10)
  | (9, ci, _, _) => !(Nat.beq ci 10)
  | _ => true
def x_pl10 (pl : Nat → Option ab_N) : Prop := ∀ x n, pl x = some n → x_n10 n = true
section XNT
variable {cl : List vw_C} {ct : Nat → Nat → FieldType} {cd : Nat → List Value} {aty : List FieldType} {oa : Nat → Option (FieldType × Nat × (Nat → Value))} {oo : Nat → Option (Nat × List Value)} {sb : List (Nat × Nat)} {NC NS : Nat} {pl : Nat → Option ab_N} {ini : Bool} {i : Instr} {pc pc' tg j : Nat} {S S' as r : List Value} {h h' : ab_H} {mt : List ab_M}
theorem x_ald10 {ty : FieldType} (hs : ab_ald aty oa ty pc S h = some (pc', S', h')) : x_N10 h h' := by
  unfold ab_ald at hs
  repeat' split at hs
  all_goals first
    | (cases hs; done)
    | (cases hs; exact x_N10.rf _)
theorem x_s2_10 (hp : x_pl10 pl) (hs : ab_s2 cl ct cd aty oa NC NS pl ini i pc S h = some (pc', S', h')) : x_N10 h h' := by
  unfold ab_s2 at hs
  repeat' split at hs
  all_goals first
    | (cases hs; done)
    | (exact x_ald10 hs)
    | (cases hs; exact x_N10.rf _)
    | (cases hs; exact x_N10.sl)
    | (cases hs; exact x_N10.sr (by assumption))
    | (cases hs; refine x_N10.ap ?_; intro G hG; cases hG; done)
    | (cases hs; refine x_N10.ap ?_; intro G hG; cases hG; exact absurd (show false = true from hp _ _ ‹pl _ = some (2, 10, _, _)›) (by decide))
theorem x_s4_10 (hs : ab_s4 aty oa sb oo NC NS pl i pc tg S h = some (pc', S', h')) : x_N10 h h' := by
  unfold ab_s4 at hs
  repeat' split at hs
  all_goals first
    | (cases hs; done)
    | (cases hs; exact x_N10.rf _)
    | (cases hs; exact x_N10.sl)
    | (cases hs; exact x_N10.ap (by intro G hG; cases hG))
theorem x_s5_10 (hs : ab_s5 aty sb oo NC NS pl i pc S h = some (pc', S', h')) : x_N10 h h' := by
  unfold ab_s5 at hs
  repeat' split at hs
  all_goals first
    | (cases hs; done)
    | (cases hs; exact x_N10.rf _)
    | (cases hs; exact x_N10.sl)
    | (cases hs; exact x_N10.ap (by intro G hG; cases hG))
theorem x_call_10 (hp : x_pl10 pl) (hs : ab_call cl oo mt pl i S h = some (j, as, r)) : 10 ≤ j ∧ j ≤ 92 := by
  have key : ∀ n : ab_N, x_n10 n = true → (n.1 = 1 ∨ n.1 = 20 ∨ n.1 = 21) → n.2.1 = j → 10 ≤ j ∧ j ≤ 92 := by
    intro n hn hk hj
    obtain ⟨k, j', a, b⟩ := n
    have hj' : j' = j := hj
    subst hj'
    have hz : (Nat.ble 10 j' && Nat.ble j' 92) = true := by
      rcases hk with z | z | z
      · have : k = 1 := z
        subst this; exact hn
      · have : k = 20 := z
        subst this; exact hn
      · have : k = 21 := z
        subst this; exact hn
    rw [Bool.and_eq_true] at hz
    exact ⟨Nat.le_of_ble_eq_true hz.1, Nat.le_of_ble_eq_true hz.2⟩
  unfold ab_call at hs
  split at hs
  · rename_i z hz
    cases hs
    unfold ab_cs at hz
    repeat' split at hz
    all_goals first
      | (cases hz; done)
      | (cases hz; exact key _ (hp _ _ (by assumption)) (Or.inl rfl) rfl)
  · unfold ab_cs5 at hs
    repeat' split at hs
    all_goals first
      | (cases hs; done)
      | (cases hs; exact key _ (hp _ _ (by assumption)) (Or.inl rfl) rfl)
      | (cases hs; exact key _ (hp _ _ (by assumption)) (Or.inr (Or.inl rfl)) rfl)
      | (cases hs; exact key _ (hp _ _ (by assumption)) (Or.inr (Or.inr rfl)) rfl)
end XNT
theorem x_th_10 {M : ab_M} {pc ce a b c : Nat} (hp : x_pl10 (my_p M)) (hs : ab_th M pc = some (ce, a, b, c)) : ce ≠ 10 := by
  unfold ab_th at hs
  repeat' split at hs
  all_goals first
    | (cases hs; done)
    | skip
  rename_i hpx _ _ _
  cases hs
  rintro rfl
  have z := hp _ _ hpx
  exact absurd (show false = true from z) (by decide)
theorem x_th0_10 {M : ab_M} {pc ce a b : Nat} (hp : x_pl10 (my_p M)) (hs : ab_th0 M pc = some (ce, a, b)) : ce ≠ 10 := by
  unfold ab_th0 at hs
  repeat' split at hs
  all_goals first
    | (cases hs; done)
    | skip
  rename_i hpx _ _
  cases hs
  rintro rfl
  have z := hp _ _ hpx
  exact absurd (show false = true from z) (by decide)
theorem x_run_10 {cl : List vw_C} {ct : Nat → Nat → FieldType} {cd : Nat → List Value} {aty : List FieldType} {oa : Nat → Option (FieldType × Nat × (Nat → Value))} {oo : Nat → Option (Nat × List Value)} {sb : List (Nat × Nat)} {NC NS : Nat} {nc : List (Nat × Nat)} {mt : List ab_M} (hmt : ∀ (j : Nat) (M : ab_M), 10 ≤ j → j ≤ 92 → mt[j]? = some M → x_pl10 (my_p M)) : ∀ (n d mi pc : Nat) (L : ab_L) (S : List Value) (h : ab_H) (o : ab_O) (h' : ab_H), 10 ≤ mi → mi ≤ 92 → ab_run cl ct cd aty oa oo sb NC NS nc mt n d mi pc L S h = some (o, h') → x_N10 h h' := by
  intro n
  induction n with
  | zero => intro d mi pc L S h o h' _ _ hr; rw [ab_run] at hr; cases hr
  | succ n ih =>
    intro d mi pc L S h o h' k1 k2 hr
    rw [ab_run] at hr
    split at hr
    · cases hr
    · rename_i M hM
      have hp := hmt mi M k1 k2 hM
      split at hr
      · cases hr
      · rename_i i ln tg hf
        split at hr
        · exact ih _ _ _ _ _ _ _ _ k1 k2 hr
        · split at hr
          · rename_i hs
            exact (x_s2_10 hp hs).tr (ih _ _ _ _ _ _ _ _ k1 k2 hr)
          · split at hr
            · cases hr; exact x_N10.rf _
            · split at hr
              · exact ih _ _ _ _ _ _ _ _ k1 k2 hr
              · split at hr
                · exact ih _ _ _ _ _ _ _ _ k1 k2 hr
                · split at hr
                  · rename_i j as r hc
                    obtain ⟨j1, j2⟩ := x_call_10 hp hc
                    split at hr
                    · split at hr
                      · split at hr
                        · rename_i v h1 hr1
                          exact (ih _ _ _ _ _ _ _ _ j1 j2 hr1).tr (ih _ _ _ _ _ _ _ _ k1 k2 hr)
                        · rename_i ce q h1 hr1
                          have z := ih _ _ _ _ _ _ _ _ j1 j2 hr1
                          split at hr
                          · cases hr; exact z
                          · split at hr
                            · split at hr
                              · exact z.tr (ih _ _ _ _ _ _ _ _ k1 k2 hr)
                              · cases hr
                            · cases hr
                        · cases hr
                      · cases hr
                    · cases hr
                  · split at hr
                    · rename_i ce _ _ _ ht
                      split at hr
                      · cases hr
                        exact x_N10.ap (fun G hG => x_th_10 hp ht (by cases hG; rfl))
                      · cases hr
                    · split at hr
                      · rename_i ce _ _ ht
                        split at hr
                        · cases hr
                          exact x_N10.ap (fun G hG => x_th0_10 hp ht (by cases hG; rfl))
                        · cases hr
                      · split at hr
                        · rename_i hs
                          exact (x_s4_10 hs).tr (ih _ _ _ _ _ _ _ _ k1 k2 hr)
                        · split at hr
                          · rename_i hs
                            exact (x_s5_10 hs).tr (ih _ _ _ _ _ _ _ _ k1 k2 hr)
                          · cases hr
theorem xlk_mem {l : List (Nat × ab_N)} {x : Nat} {n : ab_N} (h : xlk l x = some n) : ∃ y, (y, n) ∈ l := by
  unfold xlk at h
  rw [Option.map_eq_some_iff] at h
  obtain ⟨⟨y, n'⟩, h1, h2⟩ := h
  cases h2
  exact ⟨y, List.mem_of_find?_eq_some h1⟩
theorem x_pl10_of {l : List (Nat × ab_N)} (h : l.all (fun q => x_n10 q.2) = true) : x_pl10 (xlk l) := fun x n hn => by
  obtain ⟨y, hy⟩ := xlk_mem hn
  exact List.all_eq_true.mp h _ hy
set_option maxRecDepth 4000 in
theorem x_mt10 (vS : Value) : ∀ (j : Nat) (M : ab_M), 10 ≤ j → j ≤ 92 → (x_mt vS)[j]? = some M → x_pl10 (my_p M) := by
  intro j M j1 j2 hM
  obtain ⟨k, rfl⟩ : ∃ k, j = 10 + k := ⟨j - 10, by omega⟩
  have hk : k < 83 := by omega
  clear j1 j2
  match k, hk, hM with
  | 0, _, hM => exact x_pl10_of (l := xP10) (by decide +kernel) |> fun z => by cases hM; exact z
  | 1, _, hM => exact x_pl10_of (l := xP11) (by decide +kernel) |> fun z => by cases hM; exact z
  | 2, _, hM => exact x_pl10_of (l := xP12) (by decide +kernel) |> fun z => by cases hM; exact z
  | 3, _, hM => exact x_pl10_of (l := xP13) (by decide +kernel) |> fun z => by cases hM; exact z
  | 4, _, hM => exact x_pl10_of (l := xP14) (by decide +kernel) |> fun z => by cases hM; exact z
  | 5, _, hM => exact x_pl10_of (l := xP15) (by decide +kernel) |> fun z => by cases hM; exact z
  | 6, _, hM => exact x_pl10_of (l := xP16) (by decide +kernel) |> fun z => by cases hM; exact z
  | 7, _, hM => exact x_pl10_of (l := xP17) (by decide +kernel) |> fun z => by cases hM; exact z
  | 8, _, hM => exact x_pl10_of (l := xP18) (by decide +kernel) |> fun z => by cases hM; exact z
  | 9, _, hM => exact x_pl10_of (l := xP19) (by decide +kernel) |> fun z => by cases hM; exact z
  | 10, _, hM => exact x_pl10_of (l := xP20) (by decide +kernel) |> fun z => by cases hM; exact z
  | 11, _, hM => exact x_pl10_of (l := xP21) (by decide +kernel) |> fun z => by cases hM; exact z
  | 12, _, hM => exact x_pl10_of (l := xP22) (by decide +kernel) |> fun z => by cases hM; exact z
  | 13, _, hM => exact x_pl10_of (l := xP23) (by decide +kernel) |> fun z => by cases hM; exact z
  | 14, _, hM => exact x_pl10_of (l := xP24) (by decide +kernel) |> fun z => by cases hM; exact z
  | 15, _, hM => exact x_pl10_of (l := xP25) (by decide +kernel) |> fun z => by cases hM; exact z
  | 16, _, hM => exact x_pl10_of (l := xP26) (by decide +kernel) |> fun z => by cases hM; exact z
  | 17, _, hM => exact x_pl10_of (l := xP27) (by decide +kernel) |> fun z => by cases hM; exact z
  | 18, _, hM => exact x_pl10_of (l := xP28) (by decide +kernel) |> fun z => by cases hM; exact z
  | 19, _, hM => exact x_pl10_of (l := xP29) (by decide +kernel) |> fun z => by cases hM; exact z
  | 20, _, hM => exact x_pl10_of (l := xP30) (by decide +kernel) |> fun z => by cases hM; exact z
  | 21, _, hM => exact x_pl10_of (l := xP31) (by decide +kernel) |> fun z => by cases hM; exact z
  | 22, _, hM => exact x_pl10_of (l := xP32) (by decide +kernel) |> fun z => by cases hM; exact z
  | 23, _, hM => exact x_pl10_of (l := xP33) (by decide +kernel) |> fun z => by cases hM; exact z
  | 24, _, hM => exact x_pl10_of (l := xP34) (by decide +kernel) |> fun z => by cases hM; exact z
  | 25, _, hM => exact x_pl10_of (l := xP35) (by decide +kernel) |> fun z => by cases hM; exact z
  | 26, _, hM => exact x_pl10_of (l := xP36) (by decide +kernel) |> fun z => by cases hM; exact z
  | 27, _, hM => exact x_pl10_of (l := xP37) (by decide +kernel) |> fun z => by cases hM; exact z
  | 28, _, hM => exact x_pl10_of (l := xP38) (by decide +kernel) |> fun z => by cases hM; exact z
  | 29, _, hM => exact x_pl10_of (l := xP39) (by decide +kernel) |> fun z => by cases hM; exact z
  | 30, _, hM => exact x_pl10_of (l := xP40) (by decide +kernel) |> fun z => by cases hM; exact z
  | 31, _, hM => exact x_pl10_of (l := xP41) (by decide +kernel) |> fun z => by cases hM; exact z
  | 32, _, hM => exact x_pl10_of (l := xP42) (by decide +kernel) |> fun z => by cases hM; exact z
  | 33, _, hM => exact x_pl10_of (l := xP43) (by decide +kernel) |> fun z => by cases hM; exact z
  | 34, _, hM => exact x_pl10_of (l := xP44) (by decide +kernel) |> fun z => by cases hM; exact z
  | 35, _, hM => exact x_pl10_of (l := xP45) (by decide +kernel) |> fun z => by cases hM; exact z
  | 36, _, hM => exact x_pl10_of (l := xP46) (by decide +kernel) |> fun z => by cases hM; exact z
  | 37, _, hM => exact x_pl10_of (l := xP47) (by decide +kernel) |> fun z => by cases hM; exact z
  | 38, _, hM => exact x_pl10_of (l := xP48) (by decide +kernel) |> fun z => by cases hM; exact z
  | 39, _, hM => exact x_pl10_of (l := xP49) (by decide +kernel) |> fun z => by cases hM; exact z
  | 40, _, hM => exact x_pl10_of (l := xP50) (by decide +kernel) |> fun z => by cases hM; exact z
  | 41, _, hM => exact x_pl10_of (l := xP51) (by decide +kernel) |> fun z => by cases hM; exact z
  | 42, _, hM => exact x_pl10_of (l := xP52) (by decide +kernel) |> fun z => by cases hM; exact z
  | 43, _, hM => exact x_pl10_of (l := xP53) (by decide +kernel) |> fun z => by cases hM; exact z
  | 44, _, hM => exact x_pl10_of (l := xP54) (by decide +kernel) |> fun z => by cases hM; exact z
  | 45, _, hM => exact x_pl10_of (l := xP55) (by decide +kernel) |> fun z => by cases hM; exact z
  | 46, _, hM => exact x_pl10_of (l := xP56) (by decide +kernel) |> fun z => by cases hM; exact z
  | 47, _, hM => exact x_pl10_of (l := xP57) (by decide +kernel) |> fun z => by cases hM; exact z
  | 48, _, hM => exact x_pl10_of (l := xP58) (by decide +kernel) |> fun z => by cases hM; exact z
  | 49, _, hM => exact x_pl10_of (l := xP59) (by decide +kernel) |> fun z => by cases hM; exact z
  | 50, _, hM => exact x_pl10_of (l := xP60) (by decide +kernel) |> fun z => by cases hM; exact z
  | 51, _, hM => exact x_pl10_of (l := xP61) (by decide +kernel) |> fun z => by cases hM; exact z
  | 52, _, hM => exact x_pl10_of (l := xP62) (by decide +kernel) |> fun z => by cases hM; exact z
  | 53, _, hM => exact x_pl10_of (l := xP63) (by decide +kernel) |> fun z => by cases hM; exact z
  | 54, _, hM => exact x_pl10_of (l := xP64) (by decide +kernel) |> fun z => by cases hM; exact z
  | 55, _, hM => exact x_pl10_of (l := xP65) (by decide +kernel) |> fun z => by cases hM; exact z
  | 56, _, hM => exact x_pl10_of (l := xP66) (by decide +kernel) |> fun z => by cases hM; exact z
  | 57, _, hM => exact x_pl10_of (l := xP67) (by decide +kernel) |> fun z => by cases hM; exact z
  | 58, _, hM => exact x_pl10_of (l := xP68) (by decide +kernel) |> fun z => by cases hM; exact z
  | 59, _, hM => exact x_pl10_of (l := xP69) (by decide +kernel) |> fun z => by cases hM; exact z
  | 60, _, hM => exact x_pl10_of (l := xP70) (by decide +kernel) |> fun z => by cases hM; exact z
  | 61, _, hM => exact x_pl10_of (l := xP71) (by decide +kernel) |> fun z => by cases hM; exact z
  | 62, _, hM => exact x_pl10_of (l := xP72) (by decide +kernel) |> fun z => by cases hM; exact z
  | 63, _, hM => exact x_pl10_of (l := xP73) (by decide +kernel) |> fun z => by cases hM; exact z
  | 64, _, hM => exact x_pl10_of (l := xP74) (by decide +kernel) |> fun z => by cases hM; exact z
  | 65, _, hM => exact x_pl10_of (l := xP75 vS) (by rfl) |> fun z => by cases hM; exact z
  | 66, _, hM => exact x_pl10_of (l := xP76) (by decide +kernel) |> fun z => by cases hM; exact z
  | 67, _, hM => exact x_pl10_of (l := xP77) (by decide +kernel) |> fun z => by cases hM; exact z
  | 68, _, hM => exact x_pl10_of (l := xP78) (by decide +kernel) |> fun z => by cases hM; exact z
  | 69, _, hM => exact x_pl10_of (l := xP79) (by decide +kernel) |> fun z => by cases hM; exact z
  | 70, _, hM => exact x_pl10_of (l := xP80) (by decide +kernel) |> fun z => by cases hM; exact z
  | 71, _, hM => exact x_pl10_of (l := xP81) (by decide +kernel) |> fun z => by cases hM; exact z
  | 72, _, hM => exact x_pl10_of (l := xP82) (by decide +kernel) |> fun z => by cases hM; exact z
  | 73, _, hM => exact x_pl10_of (l := xP83) (by decide +kernel) |> fun z => by cases hM; exact z
  | 74, _, hM => exact x_pl10_of (l := xP84) (by decide +kernel) |> fun z => by cases hM; exact z
  | 75, _, hM => exact x_pl10_of (l := xP85) (by decide +kernel) |> fun z => by cases hM; exact z
  | 76, _, hM => exact x_pl10_of (l := xP86) (by decide +kernel) |> fun z => by cases hM; exact z
  | 77, _, hM => exact x_pl10_of (l := xP87) (by decide +kernel) |> fun z => by cases hM; exact z
  | 78, _, hM => exact x_pl10_of (l := xP88) (by decide +kernel) |> fun z => by cases hM; exact z
  | 79, _, hM => exact x_pl10_of (l := xP89) (by decide +kernel) |> fun z => by cases hM; exact z
  | 80, _, hM => exact x_pl10_of (l := xP90) (by decide +kernel) |> fun z => by cases hM; exact z
  | 81, _, hM => exact x_pl10_of (l := xP91) (by decide +kernel) |> fun z => by cases hM; exact z
  | 82, _, hM => exact x_pl10_of (l := xP92) (by decide +kernel) |> fun z => by cases hM; exact z
  | k + 83, hk, _ => omega
