/-! what is fixed of the program; made by wip/whole/gen/tables.py -/
theorem x_ec {α : Type} {P : Nat → α → Prop} {a : α} {l : List α} (h0 : P 0 a) (ht : ∀ i r, l[i]? = some r → P (i + 1) r) : ∀ i r, (a :: l)[i]? = some r → P i r := by
  intro i r h
  cases i with
  | zero => cases h; exact h0
  | succ i => exact ht i r (by simpa using h)
theorem x_en {α : Type} {P : Nat → α → Prop} : ∀ i r, ([] : List α)[i]? = some r → P i r := by
  intro i r h
  simp at h
def x_pure (v : Value) : Bool := match v with
  | .ref _ => false
  | .float _ => false
  | _ => true
theorem x_pure_ok {v : Value} (h : x_pure v = true) (B : Nat) (od : Nat → Nat) : ab_v B od v = v := by
  cases v <;> first | rfl | (simp [x_pure] at h; done)
def x_csb (T : u_T) (Y : Nat → FieldType) (V : List Value) (N : Nat) : Bool := (List.range N).all (fun k => decide (parseFieldDescriptor (T k).2.2.1 = some (Y k)) && decide (defaultValue (Y k) = vp_V V k) && (List.range N).all (fun b => decide (k = b) || decide ((T k).2.1 ≠ (T b).2.1))) && decide (V.length = N) && V.all x_pure
theorem x_cs_of {T : u_T} {Y : Nat → FieldType} {V : List Value} {N : Nat} (h : x_csb T Y V N = true) : (∀ k, k < N → parseFieldDescriptor (T k).2.2.1 = some (Y k)) ∧ (∀ a, a < N → ∀ b, b < N → a ≠ b → (T a).2.1 ≠ (T b).2.1) ∧ (∀ j, j < N → defaultValue (Y j) = vp_V V j) ∧ V.length = N ∧ (∀ v ∈ V, ∀ (B : Nat) (od : Nat → Nat), ab_v B od v = v) := by
  simp only [x_csb, Bool.and_eq_true, List.all_eq_true, List.mem_range, decide_eq_true_eq, Bool.or_eq_true] at h
  obtain ⟨⟨h1, h2⟩, h3⟩ := h
  refine ⟨fun k hk => (h1 k hk).1.1, fun a ha b hb hab => ?_, fun j hj => (h1 j hj).1.2, h2, fun v hv B od => x_pure_ok (h3 v hv) B od⟩
  rcases (h1 a ha).2 b hb with q | q
  · exact absurd q hab
  · exact q
theorem x_us {L : List Jvm.Cond} (is : List Nat) (h : (L = is.filterMap (fun i => tables_1[i]?) ∧ L.all x_g = true)) : ∀ w ∈ L, w ∈ x_Ts := by
  intro w hw
  have h2 := List.all_eq_true.mp h.2 w hw
  rw [h.1] at hw
  obtain ⟨i, -, hi⟩ := List.mem_filterMap.mp hw
  exact tm i ⟨hi, h2⟩
theorem xq0 : x_csb xT0 xY0 [.null, .null, .int 0] 3 = true := by decide +kernel
theorem xu0 : ∀ w ∈ u_ws "NotationReader" xT0 3, w ∈ x_Ts := x_us [128, 130, 132] (by decide +kernel)
theorem xq1 : x_csb xT1 xY1 [.null, .null, .int 0, .int 0, .null, .null] 6 = true := by decide +kernel
theorem xu1 : ∀ w ∈ u_ws "NotationReader$Tape" xT1 6, w ∈ x_Ts := x_us [86, 88, 90, 92, 94, 96] (by decide +kernel)
theorem xq2 : x_csb xT2 xY2 [.int 0, .int 0, .int 0, .int 0, .int 0, .long 0] 6 = true := by decide +kernel
theorem xu2 : ∀ w ∈ u_ws "NotationReader$Token" xT2 6, w ∈ x_Ts := x_us [63, 65, 67, 69, 71, 73] (by decide +kernel)
theorem xq3 : x_csb xT3 xY3 [.int 0, .null, .int 0, .int 0, .null, .null, .int 0, .int 0, .int 0, .long 0, .null, .int 0, .int 0, .int 0, .int 0, .null, .null, .null, .null, .null, .null] 21 = true := by decide +kernel
theorem xu3 : ∀ w ∈ u_ws "NotationReaderModel" xT3 21, w ∈ x_Ts := x_us [706, 708, 710, 712, 714, 716, 718, 720, 722, 724, 726, 728, 730, 732, 734, 736, 738, 740, 742, 744, 746] (by decide +kernel)
theorem xq4 : x_csb xT4 xY4 [.null, .int 0, .int 0] 3 = true := by decide +kernel
theorem xu4 : ∀ w ∈ u_ws "java/util/ArrayList" xT4 3, w ∈ x_Ts := x_us [118, 120, 122] (by decide +kernel)
theorem xq5 : x_csb xT5 xY5 [] 0 = true := by decide +kernel
theorem xu5 : ∀ w ∈ u_ws "java/lang/IndexOutOfBoundsException" xT5 0, w ∈ x_Ts := x_us [] (by decide +kernel)
theorem xq6 : x_csb xT6 xY6 [] 0 = true := by decide +kernel
theorem xu6 : ∀ w ∈ u_ws "java/lang/IllegalArgumentException" xT6 0, w ∈ x_Ts := x_us [] (by decide +kernel)
theorem xq7 : x_csb xT7 xY7 [] 0 = true := by decide +kernel
theorem xu7 : ∀ w ∈ u_ws "java/lang/UnsupportedOperationException" xT7 0, w ∈ x_Ts := x_us [] (by decide +kernel)
theorem xq8 : x_csb xT8 xY8 [] 0 = true := by decide +kernel
theorem xu8 : ∀ w ∈ u_ws "java/util/NoSuchElementException" xT8 0, w ∈ x_Ts := x_us [] (by decide +kernel)
theorem xq9 : x_csb xT9 xY9 [] 0 = true := by decide +kernel
theorem xu9 : ∀ w ∈ u_ws "java/lang/String" xT9 0, w ∈ x_Ts := x_us [] (by decide +kernel)
theorem x_CS : ab_CS x_cl x_ct x_cd := x_ec (x_cs_of xq0) (x_ec (x_cs_of xq1) (x_ec (x_cs_of xq2) (x_ec (x_cs_of xq3) (x_ec (x_cs_of xq4) (x_ec (x_cs_of xq5) (x_ec (x_cs_of xq6) (x_ec (x_cs_of xq7) (x_ec (x_cs_of xq8) (x_ec (x_cs_of xq9) (x_en))))))))))
theorem x_US : ∀ (ci : Nat) (r : vw_C), x_cl[ci]? = some r → ∀ w ∈ u_ws r.1 r.2.1 r.2.2, w ∈ x_Ts := x_ec (xu0) (x_ec (xu1) (x_ec (xu2) (x_ec (xu3) (x_ec (xu4) (x_ec (xu5) (x_ec (xu6) (x_ec (xu7) (x_ec (xu8) (x_ec (xu9) (x_en))))))))))
theorem x_MW : ∀ (j : Nat) (N : ab_M), x_mt[j]? = some N → j ≠ 0 → ab_mw x_Ts N := x_ec (fun h => absurd rfl h) (x_ec (fun _ => xw1) (x_ec (fun _ => xw2) (x_ec (fun _ => xw3) (x_ec (fun _ => xw4) (x_ec (fun _ => xw5) (x_ec (fun _ => xw6) (x_ec (fun _ => xw7) (x_ec (fun _ => xw8) (x_ec (fun _ => xw9) (x_ec (fun _ => xw10) (x_ec (fun _ => xw11) (x_ec (fun _ => xw12) (x_ec (fun _ => xw13) (x_ec (fun _ => xw14) (x_ec (fun _ => xw15) (x_ec (fun _ => xw16) (x_ec (fun _ => xw17) (x_ec (fun _ => xw18) (x_ec (fun _ => xw19) (x_ec (fun _ => xw20) (x_ec (fun _ => xw21) (x_ec (fun _ => xw22) (x_ec (fun _ => xw23) (x_ec (fun _ => xw24) (x_ec (fun _ => xw25) (x_ec (fun _ => xw26) (x_ec (fun _ => xw27) (x_ec (fun _ => xw28) (x_ec (fun _ => xw29) (x_ec (fun _ => xw30) (x_ec (fun _ => xw31) (x_ec (fun _ => xw32) (x_ec (fun _ => xw33) (x_ec (fun _ => xw34) (x_ec (fun _ => xw35) (x_ec (fun _ => xw36) (x_ec (fun _ => xw37) (x_ec (fun _ => xw38) (x_ec (fun _ => xw39) (x_ec (fun _ => xw40) (x_ec (fun _ => xw41) (x_ec (fun _ => xw42) (x_ec (fun _ => xw43) (x_ec (fun _ => xw44) (x_ec (fun _ => xw45) (x_ec (fun _ => xw46) (x_ec (fun _ => xw47) (x_ec (fun _ => xw48) (x_ec (fun _ => xw49) (x_ec (fun _ => xw50) (x_ec (fun _ => xw51) (x_ec (fun _ => xw52) (x_ec (fun _ => xw53) (x_ec (fun _ => xw54) (x_ec (fun _ => xw55) (x_ec (fun _ => xw56) (x_en)))))))))))))))))))))))))))))))))))))))))))))))))))))))))
theorem x_MS : ∀ M ∈ x_mt, ab_ck M ∧ ∀ x n, my_p M x = some n → x_all (my_y M).cls x n := List.forall_mem_cons.mpr ⟨⟨xk0, fun x n h => x_pool xp0 h⟩, List.forall_mem_cons.mpr ⟨⟨xk1, fun x n h => x_pool xp1 h⟩, List.forall_mem_cons.mpr ⟨⟨xk2, fun x n h => x_pool xp2 h⟩, List.forall_mem_cons.mpr ⟨⟨xk3, fun x n h => x_pool xp3 h⟩, List.forall_mem_cons.mpr ⟨⟨xk4, fun x n h => x_pool xp4 h⟩, List.forall_mem_cons.mpr ⟨⟨xk5, fun x n h => x_pool xp5 h⟩, List.forall_mem_cons.mpr ⟨⟨xk6, fun x n h => x_pool xp6 h⟩, List.forall_mem_cons.mpr ⟨⟨xk7, fun x n h => x_pool xp7 h⟩, List.forall_mem_cons.mpr ⟨⟨xk8, fun x n h => x_pool xp8 h⟩, List.forall_mem_cons.mpr ⟨⟨xk9, fun x n h => x_pool xp9 h⟩, List.forall_mem_cons.mpr ⟨⟨xk10, fun x n h => x_pool xp10 h⟩, List.forall_mem_cons.mpr ⟨⟨xk11, fun x n h => x_pool xp11 h⟩, List.forall_mem_cons.mpr ⟨⟨xk12, fun x n h => x_pool xp12 h⟩, List.forall_mem_cons.mpr ⟨⟨xk13, fun x n h => x_pool xp13 h⟩, List.forall_mem_cons.mpr ⟨⟨xk14, fun x n h => x_pool xp14 h⟩, List.forall_mem_cons.mpr ⟨⟨xk15, fun x n h => x_pool xp15 h⟩, List.forall_mem_cons.mpr ⟨⟨xk16, fun x n h => x_pool xp16 h⟩, List.forall_mem_cons.mpr ⟨⟨xk17, fun x n h => x_pool xp17 h⟩, List.forall_mem_cons.mpr ⟨⟨xk18, fun x n h => x_pool xp18 h⟩, List.forall_mem_cons.mpr ⟨⟨xk19, fun x n h => x_pool xp19 h⟩, List.forall_mem_cons.mpr ⟨⟨xk20, fun x n h => x_pool xp20 h⟩, List.forall_mem_cons.mpr ⟨⟨xk21, fun x n h => x_pool xp21 h⟩, List.forall_mem_cons.mpr ⟨⟨xk22, fun x n h => x_pool xp22 h⟩, List.forall_mem_cons.mpr ⟨⟨xk23, fun x n h => x_pool xp23 h⟩, List.forall_mem_cons.mpr ⟨⟨xk24, fun x n h => x_pool xp24 h⟩, List.forall_mem_cons.mpr ⟨⟨xk25, fun x n h => x_pool xp25 h⟩, List.forall_mem_cons.mpr ⟨⟨xk26, fun x n h => x_pool xp26 h⟩, List.forall_mem_cons.mpr ⟨⟨xk27, fun x n h => x_pool xp27 h⟩, List.forall_mem_cons.mpr ⟨⟨xk28, fun x n h => x_pool xp28 h⟩, List.forall_mem_cons.mpr ⟨⟨xk29, fun x n h => x_pool xp29 h⟩, List.forall_mem_cons.mpr ⟨⟨xk30, fun x n h => x_pool xp30 h⟩, List.forall_mem_cons.mpr ⟨⟨xk31, fun x n h => x_pool xp31 h⟩, List.forall_mem_cons.mpr ⟨⟨xk32, fun x n h => x_pool xp32 h⟩, List.forall_mem_cons.mpr ⟨⟨xk33, fun x n h => x_pool xp33 h⟩, List.forall_mem_cons.mpr ⟨⟨xk34, fun x n h => x_pool xp34 h⟩, List.forall_mem_cons.mpr ⟨⟨xk35, fun x n h => x_pool xp35 h⟩, List.forall_mem_cons.mpr ⟨⟨xk36, fun x n h => x_pool xp36 h⟩, List.forall_mem_cons.mpr ⟨⟨xk37, fun x n h => x_pool xp37 h⟩, List.forall_mem_cons.mpr ⟨⟨xk38, fun x n h => x_pool xp38 h⟩, List.forall_mem_cons.mpr ⟨⟨xk39, fun x n h => x_pool xp39 h⟩, List.forall_mem_cons.mpr ⟨⟨xk40, fun x n h => x_pool xp40 h⟩, List.forall_mem_cons.mpr ⟨⟨xk41, fun x n h => x_pool xp41 h⟩, List.forall_mem_cons.mpr ⟨⟨xk42, fun x n h => x_pool xp42 h⟩, List.forall_mem_cons.mpr ⟨⟨xk43, fun x n h => x_pool xp43 h⟩, List.forall_mem_cons.mpr ⟨⟨xk44, fun x n h => x_pool xp44 h⟩, List.forall_mem_cons.mpr ⟨⟨xk45, fun x n h => x_pool xp45 h⟩, List.forall_mem_cons.mpr ⟨⟨xk46, fun x n h => x_pool xp46 h⟩, List.forall_mem_cons.mpr ⟨⟨xk47, fun x n h => x_pool xp47 h⟩, List.forall_mem_cons.mpr ⟨⟨xk48, fun x n h => x_pool xp48 h⟩, List.forall_mem_cons.mpr ⟨⟨xk49, fun x n h => x_pool xp49 h⟩, List.forall_mem_cons.mpr ⟨⟨xk50, fun x n h => x_pool xp50 h⟩, List.forall_mem_cons.mpr ⟨⟨xk51, fun x n h => x_pool xp51 h⟩, List.forall_mem_cons.mpr ⟨⟨xk52, fun x n h => x_pool xp52 h⟩, List.forall_mem_cons.mpr ⟨⟨xk53, fun x n h => x_pool xp53 h⟩, List.forall_mem_cons.mpr ⟨⟨xk54, fun x n h => x_pool xp54 h⟩, List.forall_mem_cons.mpr ⟨⟨xk55, fun x n h => x_pool xp55 h⟩, List.forall_mem_cons.mpr ⟨⟨xk56, fun x n h => x_pool xp56 h⟩, fun _ h => absurd h List.not_mem_nil⟩⟩⟩⟩⟩⟩⟩⟩⟩⟩⟩⟩⟩⟩⟩⟩⟩⟩⟩⟩⟩⟩⟩⟩⟩⟩⟩⟩⟩⟩⟩⟩⟩⟩⟩⟩⟩⟩⟩⟩⟩⟩⟩⟩⟩⟩⟩⟩⟩⟩⟩⟩⟩⟩⟩⟩⟩
theorem x_GOOD : ∀ w ∈ x_Ts, ab_good w := fun w hw => by
  have h := (List.mem_filter.mp hw).2
  simp only [x_g, Bool.and_eq_true] at h
  exact h
theorem x_SF : ab_SF x_cl x_ct x_cd x_aty x_sb x_Ts x_mt := by
  refine ⟨fun t ci h => ?_, x_CS, x_GOOD, x_US, x_MW, fun M hM => ⟨(x_MS M hM).1, fun x n h => ?_⟩⟩
  · simp only [x_sb, List.mem_singleton, Prod.mk.injEq] at h
    obtain ⟨rfl, rfl⟩ := h
    exact ⟨_, _, rfl, rfl, Or.inl rfl⟩
  · have z := (x_MS M hM).2 x n h
    exact ⟨z.1, z.2.1, z.2.2.1, z.2.2.2.1⟩
theorem x_P9 : ∀ M ∈ x_mt, ∀ x n, my_p M x = some n → ab_p9 x_cl x_Ts (my_y M).cls x n := fun M hM x n h => ((x_MS M hM).2 x n h).2.2.2.2.1

