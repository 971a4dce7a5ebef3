/-! what holds as the law begins; made by wip/whole/gen/tables2.py -/
def x_od (b : Nat) (s : State) (w : Nat) : Nat := match (x_trms[w]?).bind (fun t => t.eval #[Value.ref b] s none [] s) with
  | some (.ref a) => a
  | _ => b
def x_nm (w : Nat) : String := if w = 59 then "[Ljava/lang/Object;" else "java/lang/String"
theorem x_odv {b : Nat} {s : State} {w a : Nat} {t : Term} (hw : x_trms[w]? = some t) (ht : t.eval #[Value.ref b] s none [] s = some (.ref a)) : x_od b s w = a := by
  unfold x_od
  rw [hw]
  simp only [Option.bind_some, ht]
theorem x_exb : x_exs.all (fun w => decide (w < x_trms.length) && (flatC x_nar).contains (.exactly ((x_trms[w]?).getD (.arg 0)) (x_nm w))) = true := by decide +kernel
theorem x_odw {b : Nat} {s : State} (h : x_nar.before #[Value.ref b] s = true) {w : Nat} {t : Term} (hw : x_trms[w]? = some t) (hm : w ∈ x_exs) : t.eval #[Value.ref b] s none [] s = some (.ref (x_od b s w)) ∧ x_od b s w < s.heap.size ∧ va_O (x_nm w) (x_od b s w) (fun q => s.heap.size ≤ q) s s.heap := by
  have z := List.all_eq_true.mp x_exb w hm
  simp only [Bool.and_eq_true, decide_eq_true_eq, List.contains_iff_mem, hw, Option.getD_some] at z
  have hex := flat_of_before _ h _ z.2
  obtain ⟨a, c, cell, k, q1, q2, q3, q4, q5, q6, -⟩ := Cond.exactly_spec (args := #[Value.ref b]) (first := s) (o := none) (s := s) (idx := []) hex
  rw [x_odv hw q1]
  exact ⟨q1, (Array.getElem?_eq_some_iff.mp q3).1, va_Oof hex q1 (fun a ha hn => by omega)⟩
theorem x_od0 (b : Nat) (s : State) : x_od b s 0 = b := rfl
/-- a string constant: its words -/
def x_tc (q : Nat × Nat × List Int32) : List Jvm.Cond := [.exactly ((x_trms[q.1]?).getD (.arg 0)) "java/lang/String", .eq (.field ((x_trms[q.1]?).getD (.arg 0)) "java/lang/String" "coder" "B") (.int 0), .arrayOf (.field ((x_trms[q.1]?).getD (.arg 0)) "java/lang/String" "value" "[B") .byte, .eq (.length (.field ((x_trms[q.1]?).getD (.arg 0)) "java/lang/String" "value" "[B")) (.int (Int32.ofNat q.2.2.length))] ++ q.2.2.zipIdx.map (fun z => .eq (.elem (.field ((x_trms[q.1]?).getD (.arg 0)) "java/lang/String" "value" "[B") (.int (Int32.ofNat z.2))) (.int z.1))
theorem x_tcb : (x_tx.zip x_tp).all (fun z => decide (((flatC x_nar).drop z.2).take (4 + z.1.2.2.length) = x_tc z.1)) = true := by decide +kernel
theorem x_ttb : x_tx.all (fun q => decide (x_trms[q.2.1]? = some (.field ((x_trms[q.1]?).getD (.arg 0)) "java/lang/String" "value" "[B")) && decide (q.1 < x_trms.length) && x_exs.contains q.1 && decide (q.1 ≠ 59) && decide (q.2.1 < 4294967296) && decide (q.2.2.length < 2147483648)) = true := by decide +kernel
theorem x_tlen : x_tx.length = x_tp.length := by decide
theorem x_tin {q : Nat × Nat × List Int32} (hq : q ∈ x_tx) : ∀ c ∈ x_tc q, c ∈ flatC x_nar := by
  obtain ⟨i, hi, e⟩ := List.mem_iff_getElem.mp hq
  have hi2 : i < x_tp.length := by rw [← x_tlen]; exact hi
  have hz : (q, x_tp[i]) ∈ x_tx.zip x_tp := by
    rw [← e]
    refine List.mem_iff_getElem.mpr ⟨i, by simp; omega, by simp⟩
  have z := of_decide_eq_true (List.all_eq_true.mp x_tcb _ hz)
  intro c hc
  rw [← z] at hc
  exact List.mem_of_mem_drop (List.mem_of_mem_take hc)
/-- what is known of a string constant -/
theorem x_str {b : Nat} {s : State} (h : x_nar.before #[Value.ref b] s = true) {q : Nat × Nat × List Int32} (hq : q ∈ x_tx) : va_O "java/lang/String" (x_od b s q.1) (fun q => s.heap.size ≤ q) s s.heap ∧ va_OF "java/lang/String" "coder" "B" (.int 0) (x_od b s q.1) (fun q => s.heap.size ≤ q) s s.heap ∧ va_OF "java/lang/String" "value" "[B" (.ref (x_od b s q.2.1)) (x_od b s q.1) (fun q => s.heap.size ≤ q) s s.heap ∧ va_T .byte (x_od b s q.2.1) q.2.2.length (fun j => .int (q.2.2.getD j 0)) (fun q => s.heap.size ≤ q) s s.heap := by
  have z := List.all_eq_true.mp x_ttb q hq
  simp only [Bool.and_eq_true, decide_eq_true_eq, List.contains_iff_mem] at z
  obtain ⟨⟨⟨⟨⟨z1, z2⟩, z3⟩, z4⟩, z5⟩, z6⟩ := z
  have hw : x_trms[q.1]? = some (x_trms[q.1]'z2) := List.getElem?_eq_getElem z2
  have hg : (x_trms[q.1]?).getD (.arg 0) = x_trms[q.1]'z2 := by rw [hw]; rfl
  have hT := x_tin hq
  obtain ⟨a1, a2, a3⟩ := x_odw h hw z3
  have hA : ∀ a : Nat, a < s.heap.size → ¬ s.heap.size ≤ a := fun a ha hn => by omega
  rw [show x_nm q.1 = "java/lang/String" from by unfold x_nm; rw [if_neg z4]] at a3
  have k2 := flat_of_before _ h _ (hT (.eq (.field ((x_trms[q.1]?).getD (.arg 0)) "java/lang/String" "coder" "B") (.int 0)) (by simp [x_tc]))
  have k3 := flat_of_before _ h _ (hT (.arrayOf (.field ((x_trms[q.1]?).getD (.arg 0)) "java/lang/String" "value" "[B") .byte) (by simp [x_tc]))
  have k4 := flat_of_before _ h _ (hT (.eq (.length (.field ((x_trms[q.1]?).getD (.arg 0)) "java/lang/String" "value" "[B")) (.int (Int32.ofNat q.2.2.length))) (by simp [x_tc]))
  have k5 : ∀ j, j < q.2.2.length → (Cond.eq (.elem (.field ((x_trms[q.1]?).getD (.arg 0)) "java/lang/String" "value" "[B") (.int (Int32.ofNat j))) (.int (q.2.2.getD j 0))).before #[Value.ref b] s = true := fun j hj => by
    refine flat_of_before _ h _ (hT _ ?_)
    unfold x_tc
    refine List.mem_append.mpr (Or.inr (List.mem_map.mpr ⟨(q.2.2.getD j 0, j), ?_, rfl⟩))
    rw [List.mem_zipIdx_iff_getElem?]
    show q.2.2[j]? = some (q.2.2.getD j 0)
    rw [List.getD_eq_getElem?_getD, List.getElem?_eq_getElem hj]
    rfl
  rw [hg] at k2 k3 k4 k5 z1
  obtain ⟨t, ht, hTT⟩ := va_Tof (f := fun j => .int (q.2.2.getD j 0)) (A := fun q => s.heap.size ≤ q) (by omega) k3 (va_eqt k4) (fun j hj => va_eqt (k5 j hj)) hA
  rw [x_odv z1 ht]
  exact ⟨a3, vk_OFof a1 (va_eqt k2) hA, vk_OFof a1 ht hA, hTT⟩
