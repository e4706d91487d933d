/-! ROUTE: a new one -/
theorem tv0 {h : xH} {Z : xO → xH → Prop} {x0 : Nat} {x1 : Int32} (hc : x_ce h = 0) (hs : x_so h = 0) (g0 : x_live h 5 x0) (g1 : 0 ≤ x1.toInt ∧ x1.toInt ≤ 24) (hZ : Z (.inl none) (x_putr (x_newa h 20 x1.toNatClampNeg) 5 0 x0 (x_cn h 20 + 1))) : xC 10 0 [.inr (.inr (5, x0)), .inl x1] h Z := by
  have hcl := x_clamp g1.1
  refine ⟨rfl, hc, hs, xR.blk c0_0 ?_⟩
  refine q_aload rfl (by decide) (q_objinit (by decide) g0.1 (Nat.le_of_ble_eq_true rfl) (q_aload rfl (by decide) (q_iload rfl (q_newr g1.1 (by omega) (by rw [hc]; decide) (by rw [hs]; omega) (q_pfr ?_ (q_ret hZ))))))
  refine ⟨g0.1, ?_⟩
  rw [x_newa_cn, if_neg (by decide)]
  exact g0.2
/-- the heap with a new route -/
def rt_h (h : xH) (p w : Int32) : xH :=
  x_puti (x_puti (x_putr (x_putr (x_newa (x_new (x_new h 4 5) 5 2) 20 3) 5 0 (x_cn h 5 + 1) (x_cn h 20 + 1)) 4 2 (x_cn h 4 + 1) (x_cn h 5 + 1)) 4 0 (x_cn h 4 + 1) p) 4 1 (x_cn h 4 + 1) w
theorem rt_cn {h : xH} {p w : Int32} (K : Nat) : x_cn (rt_h h p w) K = x_cn h K + (if K = 4 ∨ K = 5 ∨ K = 20 then 1 else 0) := by
  show x_cn (x_newa (x_new (x_new h 4 5) 5 2) 20 3) K = _
  simp only [x_newa_cn, x_new_cn]
  by_cases e1 : K = 20
  · subst e1; simp
  · by_cases e2 : K = 5
    · subst e2; simp
    · by_cases e3 : K = 4
      · subst e3; simp
      · simp [e1, e2, e3]
theorem rt_vr {h : xH} {p w : Int32} {K k j : Nat} : x_vr (rt_h h p w) K k j = if K = 4 ∧ k = 2 ∧ j = x_cn h 4 + 1 then x_cn h 5 + 1 else if K = 5 ∧ k = 0 ∧ j = x_cn h 5 + 1 then x_cn h 20 + 1 else if K = 20 ∧ k = x_cn h 20 + 1 then 0 else if K = 5 ∧ j = x_cn h 5 + 1 then 0 else if K = 4 ∧ j = x_cn h 4 + 1 then 0 else x_vr h K k j := rfl
theorem rt_vi {h : xH} {p w : Int32} {K k j : Nat} : x_vi (rt_h h p w) K k j = if K = 4 ∧ k = 1 ∧ j = x_cn h 4 + 1 then w else if K = 4 ∧ k = 0 ∧ j = x_cn h 4 + 1 then p else if K = 20 ∧ k = x_cn h 20 + 1 then 0 else if K = 5 ∧ j = x_cn h 5 + 1 then 0 else if K = 4 ∧ j = x_cn h 4 + 1 then 0 else x_vi h K k j := rfl
theorem rt_ln {h : xH} {p w : Int32} {K j : Nat} : x_ln (rt_h h p w) K j = if K = 20 ∧ j = x_cn h 20 + 1 then 3 else x_ln h K j := rfl
theorem rt_CI {h : xH} {p w : Int32} (hC : CI h) : CI (rt_h h p w) := by
  have hnl : ∀ K j, x_live (rt_h h p w) K j → ¬ x_live h K j → j = x_cn h K + 1 := by
    intro K j ⟨q1, q2⟩ hn
    rw [rt_cn] at q2
    have : ¬ j ≤ x_cn h K := fun z => hn ⟨q1, z⟩
    by_cases e : K = 4 ∨ K = 5 ∨ K = 20
    · rw [if_pos e] at q2; omega
    · rw [if_neg e] at q2; omega
  refine hC.grow (fun K hK => ?_) (fun K => by rw [rt_cn]; omega) (fun K k j hK hj => ⟨?_, ?_⟩) (fun K j i hK hj => ?_) (fun K j hj => ?_) ?_ ?_ ?_ ?_
  · rw [rt_cn, if_neg (by unfold x_fk at hK; omega)]; rfl
  · have := hj.2
    rw [rt_vi, if_neg (by rintro ⟨rfl, -, rfl⟩; omega), if_neg (by rintro ⟨rfl, -, rfl⟩; omega), if_neg (by omega), if_neg (by rintro ⟨rfl, rfl⟩; omega), if_neg (by rintro ⟨rfl, rfl⟩; omega)]
  · have := hj.2
    rw [rt_vr, if_neg (by rintro ⟨rfl, -, rfl⟩; omega), if_neg (by rintro ⟨rfl, -, rfl⟩; omega), if_neg (by omega), if_neg (by rintro ⟨rfl, rfl⟩; omega), if_neg (by rintro ⟨rfl, rfl⟩; omega)]
  · have := hj.2
    rw [rt_vr, if_neg (by omega), if_neg (by omega), if_neg (by rintro ⟨rfl, rfl⟩; omega), if_neg (by omega), if_neg (by omega)]
  · have := hj.2
    rw [rt_ln, if_neg (by rintro ⟨rfl, rfl⟩; omega)]
  · intro K k j hm hf hg hn
    have e := hnl K j hg hn
    simp only [x_nnl, List.mem_cons, Prod.mk.injEq, List.not_mem_nil, or_false] at hm
    unfold x_fk at hf
    rcases (show (K = 4 ∧ k = 2) ∨ (K = 5 ∧ k = 0) by omega) with ⟨rfl, rfl⟩ | ⟨rfl, rfl⟩
    · rw [rt_vr, if_pos ⟨rfl, rfl, e⟩]
      show x_live _ 5 _
      exact ⟨by omega, by rw [rt_cn]; simp⟩
    · rw [rt_vr, if_neg (by omega), if_pos ⟨rfl, rfl, e⟩]
      show x_live _ 20 _
      exact ⟨by omega, by rw [rt_cn]; simp⟩
  · intro K k j hm hf hg hn
    simp only [x_nul, List.mem_cons, Prod.mk.injEq, List.not_mem_nil, or_false] at hm
    unfold x_fk at hf
    have hK : K = 6 := by omega
    subst hK
    have e := hnl 6 j hg hn
    have h2 := hg.2
    rw [rt_cn, if_neg (by omega)] at h2
    omega
  · intro K k lo hi j hm hf hg hn
    simp only [x_rgl, List.mem_cons, Prod.mk.injEq, List.not_mem_nil, or_false] at hm
    unfold x_fk at hf
    have hK : K = 6 := by omega
    subst hK
    have e := hnl 6 j hg hn
    have h2 := hg.2
    rw [rt_cn, if_neg (by omega)] at h2
    omega
  · intro j hg hn
    have e := hnl 5 j hg hn
    have e1 : x_vi (rt_h h p w) 5 1 j = 0 := by rw [rt_vi, if_neg (by omega), if_neg (by omega), if_neg (by omega), if_pos ⟨rfl, e⟩]
    have e2 : x_vr (rt_h h p w) 5 0 j = x_cn h 20 + 1 := by rw [rt_vr, if_neg (by omega), if_pos ⟨rfl, rfl, e⟩]
    have e3 : x_ln (rt_h h p w) 20 (x_cn h 20 + 1) = 3 := by rw [rt_ln, if_pos ⟨rfl, rfl⟩]
    have e0 : (0 : Int32).toInt = 0 := rfl
    rw [e1, e2, e3, e0]
    omega
theorem rt_mq {h : xH} {p w : Int32} : x_mq (rt_h h p w) = x_mq h := by
  unfold rt_h
  rw [x_mq_puti rfl, x_mq_puti rfl, x_mq_putr rfl, x_mq_putr rfl, x_mq_newa rfl, x_mq_new rfl, x_mq_new rfl]
theorem tv32 {h : xH} {Z : xO → xH → Prop} {x1 x2 : Int32} (g2 : 0 ≤ x2.toInt ∧ x2.toInt ≤ 1) (hZ : ∀ g : xH, (∃ a b, g = x_setc (rt_h h x1 x2) a b) → Z (.inl none) g) : xC 30 32 [.inr (.inr (4, x_cn h 4 + 1)), .inl x1, .inl x2] (x_setc (x_new h 4 5) 0 0) Z := by
  have l4 : x_live (x_new h 4 5) 4 (x_cn h 4 + 1) := x_new_lv.mpr (Or.inr ⟨rfl, rfl⟩)
  have l5 : x_live (x_new (x_new h 4 5) 5 2) 5 (x_cn h 5 + 1) := x_new_lv.mpr (Or.inr ⟨rfl, rfl⟩)
  refine ⟨rfl, rfl, rfl, xR.blk c32_0 ?_⟩
  refine q_aload rfl (by decide) (q_objinit (by decide) l4.1 (Nat.le_of_ble_eq_true rfl) (q_aload rfl (by decide) (q_newo (Nat.le_of_ble_eq_true rfl) (Nat.le_of_ble_eq_true rfl) (q_dup rfl (q_iconst (q_calli rfl (by decide) l5.1 (by decide) (Nat.le_of_ble_eq_true rfl) (Nat.le_of_ble_eq_true rfl) (Nat.le_of_ble_eq_true rfl) (Nat.le_of_ble_eq_true rfl) ?_))))))
  refine xC.up (tv0 (h := x_setc (x_new (x_setc (x_new h 4 5) 0 0) 5 2) 0 0) (x0 := x_cn h 5 + 1) (x1 := 3) rfl rfl l5 (by decide) ?_) (by omega)
  have l4' : x_live (rt_h h x1 x2) 4 (x_cn h 4 + 1) := ⟨by omega, by rw [rt_cn]; simp⟩
  exact q_pfr l4' (q_aload rfl (by decide) (q_iload rfl (q_pfi l4' (q_aload rfl (by decide) (q_iload rfl (q_pfz l4' (i32_01 g2) (q_ret (hZ _ ⟨_, _, rfl⟩))))))))
