/-! the law: both objects are made -/
section XLS
variable {e : xE} {d q0 qt qb ql qa qo q q8 len tp cap nn capm k : Nat} {gb gm gm2 : Nat → Int32} {h h' : ab_H} {y : Int64} {F F2 : List Value} {R R2 : Nat → Nat} {A A2 : m_AT} {Q : ab_O → ab_H → Prop}
theorem l_ty (hY : c_TY h) (n : x_N10 h h') (kp : ∀ (k : Nat) (G : List Value), h[k]? = some (.inr (10, G)) → h'[k]? = some (.inr (10, G))) : c_TY h' := fun k G hk => by
  obtain ⟨G', h1⟩ := n k G hk
  have z := kp k G' h1
  rw [hk] at z
  cases z
  exact hY k _ h1
theorem m_init10 (hq : h[q]? = some (.inr (3, x_cd 3))) (z1 : h.length + 20 ≤ e.2.2.2.1) (z2 : ab_sz h + 20000 ≤ e.2.2.2.2.1) (b1 : h.length < e.2.2.2.2.2) (b2 : e.2.2.2.2.2 ≤ h.length + 9) : xT e d 10 0 [(0, .ref q)] [] h (fun o h' => ∃ v, o = .inl v ∧ v = none ∧ (∃ F A, m_G e h' q (h.length + 0) (fun _ => 0) F 0 0 64 (fun j => h.length + (j + 3)) A) ∧ i_F h h' q 9 4527 ∧ x_N10 h h') := by
  refine ((m_init hq z1 z2 b1 b2).n10 (by decide) (by decide)).mono (fun o h' ho => ?_)
  obtain ⟨⟨v, e1, e2, ⟨F, hG⟩, hF⟩, n⟩ := ho
  exact ⟨v, e1, e2, ⟨F, _, hG⟩, hF, n⟩
theorem l_start (hE : e.1 = .null ∨ ∃ w, e.1 = .float w) (hNC : e.2.2.2.1 = 601024) (hNS : e.2.2.2.2.1 = 7293034) (hL : e.2.1 ≤ 3072) (h5 : e.2.2.2.2.2 = 9) : xT e (d + 400) 0 0 [(0, .float 0)] [] [] (fun o _ => o = .inl (some (.int 1))) := by
  have hM : (x_mt e.1)[0]? = some xM0 := rfl
  refine xT.new hM rfl rfl rfl (by rw [hNC]; decide) (by rw [hNS]; show 0 + 3 ≤ 7293034; decide) (fun h1 e1 w1 => ?_)
  have l1 : h1.length = 1 := w1.2.2.1
  have z1 : ab_sz h1 = 3 := by rw [w1.2.2.2]; rfl
  have q1 : h1[0]? = some (.inr (0, x_cd 0)) := w1.1
  have y1 : c_TY h1 := fun k G hk => by
    have z := x_rev_nw e1 (by simp) hk
    simp at z
  show xT e (d + 400) 0 3 [(0, .float 0)] [.ref 0] h1 _
  clear w1 e1
  refine xT.s1 hM rfl rfl ?_
  refine xT.go hM rfl rfl rfl rfl rfl rfl (xc_init rfl rfl rfl ⟨rfl, Nat.le_of_ble_eq_true rfl, rfl, rfl, rfl⟩) rfl ⟨Nat.le_of_ble_eq_true rfl, Nat.le_of_ble_eq_true rfl, by decide⟩ (c_oinit q1 y1 (by omega) (by omega)) (fun v2 h2 hv2 => ?_)
  obtain ⟨rfl, hS, hF⟩ := hv2
  rw [l1] at hS
  have l2 : h2.length = 7 := by have := hF.2.1; omega
  have z2 : ab_sz h2 = 8216 := by have := hF.2.2; omega
  clear hF y1 q1
  refine xT.s1 hM rfl rfl ?_
  refine xT.new hM rfl rfl rfl (by omega) (by rw [hNS, z2]; show 8216 + 21 ≤ 7293034; decide) (fun h3 e3 w3 => ?_)
  have l3 : h3.length = 8 := by have := w3.2.2.1; omega
  have z3 : ab_sz h3 = 8237 := by rw [w3.2.2.2, z2]; rfl
  have q3 := w3.1
  rw [l2] at q3 ⊢
  refine xT.s1 hM rfl rfl ?_
  refine xT.go hM rfl rfl rfl rfl rfl rfl (xc_init rfl rfl rfl ⟨rfl, Nat.le_of_ble_eq_true rfl, rfl, rfl, rfl⟩) rfl ⟨Nat.le_of_ble_eq_true rfl, Nat.le_of_ble_eq_true rfl, by decide⟩ (m_init10 q3 (by omega) (by omega) (by omega) (by omega)) (fun v4 h4 hv4 => ?_)
  obtain ⟨rfl, ⟨F, A, hG⟩, hF, n10⟩ := hv4
  rw [l3] at hG
  have l4 : h4.length = 17 := by have := hF.2.1; omega
  have z4 : ab_sz h4 = 12764 := by have := hF.2.2; omega
  have kp : ∀ (k : Nat) (x : ab_E), h2[k]? = some x → h4[k]? = some x := fun k x hk => by
    have := x_lt hk
    exact hF.1 k x (w3.2.1 k x hk) (by omega)
  have hY2 := hS.2.2.2.2.2.2
  have hY4 : c_TY h4 := fun k G hk => by
    obtain ⟨G', k1⟩ := n10 k G hk
    have k2 := x_rev_nw e3 (by simp) k1
    have k3 := kp k _ k2
    rw [hk] at k3
    cases k3
    exact hY2 k _ k2
  replace hS := hS.ext kp hY4
  clear hF kp hY2 n10 w3 e3 q3
  refine xT.s1 hM rfl rfl ?_
  refine xT.s1 hM rfl rfl ?_
  refine xT.newl (m := 1) hM rfl (by omega) (by omega) (by omega) (fun h6 e6 w6 => ?_)
  have l6 : h6.length = 18 := by have := w6.2.2.1; omega
  have z6 : ab_sz h6 = 12765 := by rw [w6.2.2.2, z4]; rfl
  have q6 := w6.1
  rw [l4] at q6 ⊢
  have hY6 : c_TY h6 := fun k G hk => hY4 k G (x_rev_nw e6 (by simp) hk)
  replace hS := hS.ext w6.2.1 hY6
  replace hG := hG.kept (w6.2.1 _ _ hG.h8.1) (by omega) (fun k ci G hk _ => w6.2.1 _ _ hk) (fun k t n f hk _ => w6.2.1 _ _ hk) (fun k n f hk _ => w6.2.1 _ _ hk)
  refine xT.s1 hM rfl rfl ?_
  refine xT.s1 hM rfl rfl ?_
  refine xT.s1 hM rfl rfl ?_
  have I0 : l_I e h6 0 (1 + 0) (1 + 1 + 0) (1 + 1 + 1) (1 + 5) 17 7 (8 + 0) 0 0 := ⟨_, _, 0, 64, 0, _, F, _, A, ⟨⟨_, _, _, _, _, _, _, _, _, _, hS, by omega⟩, by omega, _, q6, rfl⟩, hG, ⟨by omega, by omega, by omega, by omega⟩, by omega, by omega⟩
  exact l_loop (d := d + 100) hE hNC hNS hL (e.2.1 + 1) 0 0 h6 (by omega) (by omega) I0
end XLS
