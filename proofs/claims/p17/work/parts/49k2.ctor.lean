/-! THE NET -/
theorem tx43 {h : xH} {Z : xO → xH → Prop} (hc : x_ce h = 0) (hs : x_so h = 0) (hcn : ∀ K, ck K → x_cn h K = if K = 7 then 1 else if K = 9 then 6 else 0) (h74 : x_vi h 7 4 1 = 0) (hZ : ∀ g : xH, CI g → x_mq g = x_mq h → NS 3 72 g → (∀ K, ck K → x_cn g K = ct_c K 3 72) → Z (.inl none) g) : xC 5000 43 [.inr (.inr (7, 1))] h Z := by
  have no : ∀ K j, ck K → K ≠ 7 → K ≠ 9 → ¬ x_live h K j := by
    intro K j hk h7 h9 hj
    have a := hj.1
    have b := hj.2
    rw [hcn K hk, if_neg h7, if_neg h9] at b
    omega
  have Q0 : QI h (fun K j => K = 7 ∧ j = 1) (fun _ _ _ => False) := by
    refine ⟨fun K k j hm hj hE => ?_, fun K k j hm hj => ?_, fun K k lo hi j hm hj => ?_, fun K L j hm hj => ?_, fun K L j i hm hj hi hA => ?_, fun K j i hm hj => ?_, fun j hj => ?_, fun j hj => ?_, fun j hj => ?_, fun j hj => ?_⟩
    · by_cases e : K = 7
      · subst e
        have b := hj.2
        have a := hj.1
        rw [hcn 7 (by unfold ck; omega), if_pos rfl] at b
        exact absurd ⟨rfl, by omega⟩ hE
      · simp only [x_nnl, List.mem_cons, Prod.mk.injEq, List.not_mem_nil, or_false] at hm
        exact absurd hj (no K j (by unfold ck; omega) e (by omega))
    · simp only [x_nul, List.mem_cons, Prod.mk.injEq, List.not_mem_nil, or_false] at hm
      exact absurd hj (no K j (by unfold ck; omega) (by omega) (by omega))
    · by_cases e : K = 7
      · subst e
        have b := hj.2
        have a := hj.1
        rw [hcn 7 (by unfold ck; omega), if_pos rfl] at b
        have hk : k = 4 ∧ lo = 0 ∧ hi = 16 := by simp only [x_rgl, List.mem_cons, Prod.mk.injEq, List.not_mem_nil, or_false] at hm; omega
        obtain ⟨rfl, rfl, rfl⟩ := hk
        rw [show j = 1 by omega, h74, i32_0]
        omega
      · simp only [x_rgl, List.mem_cons, Prod.mk.injEq, List.not_mem_nil, or_false] at hm
        exact absurd hj (no K j (by unfold ck; omega) e (by omega))
    · simp only [x_lnl, List.mem_cons, Prod.mk.injEq, List.not_mem_nil, or_false] at hm
      exact absurd hj (no K j (by unfold ck; omega) (by omega) (by omega))
    · simp only [x_ael, List.mem_cons, Prod.mk.injEq, List.not_mem_nil, or_false] at hm
      exact absurd hj (no K j (by unfold ck; omega) (by omega) (by omega))
    · exact absurd hj (no K j (by unfold ck; omega) (by omega) (by omega))
    · have b := hj.2
      have a := hj.1
      rw [hcn 7 (by unfold ck; omega), if_pos rfl] at b
      rw [show j = 1 by omega]; exact h74
    · exact absurd hj (no 3 j (by unfold ck; omega) (by omega) (by omega))
    · exact absurd hj (no 5 j (by unfold ck; omega) (by omega) (by omega))
    · exact absurd hj (no 20 j (by unfold ck; omega) (by omega) (by omega))
  have g0 : x_live h 7 1 := ⟨Nat.le_refl 1, by rw [hcn 7 (by unfold ck; omega)]; exact Nat.le_refl 1⟩
  refine ⟨rfl, hc, hs, ?_⟩
  show xR _ 43 0 ([.inr (.inr (7, 1)), .inr (.inr (0, 0)), .inr (.inr (0, 0))], [], h) Z
  refine xR.blk c43_0 ?_
  refine q_aload rfl (by decide) (q_objinit (by decide) g0.1 (Nat.le_of_ble_eq_true rfl) ?_)
  refine wx_arr7 (L := 3) rfl Q0 rfl (by decide) (fun L' hm => by simp only [x_lnl, List.mem_cons, Prod.mk.injEq, List.not_mem_nil, or_false] at hm; omega) rfl (by decide) rfl g0 hc hs (by decide) (by decide) (fun H1 Q1 c1 v1 ce1 so1 mq1 o1 an1 => ?_)
  have l1 : x_live H1 7 1 := ⟨g0.1, by rw [c1, if_neg (by decide)]; exact g0.2⟩
  refine wx_arr7 (L := 72) rfl Q1 rfl (by decide) (fun L' hm => by simp only [x_lnl, List.mem_cons, Prod.mk.injEq, List.not_mem_nil, or_false] at hm; omega) rfl (by decide) rfl l1 ce1 so1 (by decide) (by decide) (fun H2 Q2 c2 v2 ce2 so2 mq2 o2 an2 => ?_)
  have l2 : x_live H2 7 1 := ⟨g0.1, by rw [c2, if_neg (by decide)]; exact l1.2⟩
  refine wx_arr7 (L := 16) rfl Q2 rfl (by decide) (fun L' hm => by simp only [x_lnl, List.mem_cons, Prod.mk.injEq, List.not_mem_nil, or_false] at hm; omega) rfl (by decide) rfl l2 ce2 so2 (by decide) (by decide) (fun H3 Q3 c3 v3 ce3 so3 mq3 o3 an3 => ?_)
  have l3 : x_live H3 7 1 := ⟨g0.1, by rw [c3, if_neg (by decide)]; exact l2.2⟩
  have k14 : x_cn H3 14 = 0 := by rw [c3, c2, c1, hcn 14 (by unfold ck; omega)]; rfl
  have k15 : x_cn H3 15 = 0 := by rw [c3, c2, c1, hcn 15 (by unfold ck; omega)]; rfl
  refine q_aload rfl (by decide) (q_iconst (q_iconst ?_))
  refine ⟨by decide, by decide, by decide, by decide, by show x_ce H3 + 1 + 3 ≤ 1000; omega, by show x_so H3 + 3 + 3 * 3 ≤ 6000; omega, ?_⟩
  rw [k14, k15]
  show x_seq _ _ _ _ (_, _, x_putr (x_newa (x_putr (x_newa (x_putr (x_newa (x_newa H3 14 3) 15 3) 14 1 0 1) 15 3) 14 1 1 2) 15 3) 14 1 2 3)
  have Q4 : QI (x_putr (x_newa (x_putr (x_newa (x_putr (x_newa (x_newa H3 14 3) 15 3) 14 1 0 1) 15 3) 14 1 1 2) 15 3) 14 1 2 3) (fun K j => K = 7 ∧ j = 1) (fun K j i => ((K = 11 ∧ j = 1 ∧ 0 ≤ i) ∨ (K = 12 ∧ j = 1 ∧ 0 ≤ i)) ∨ (K = 14 ∧ 3 ≤ i)) := by
    have k11 : x_cn H3 11 = 1 := by rw [c3, c2, c1, hcn 11 (by unfold ck; omega)]; rfl
    have k12 : x_cn H3 12 = 1 := by rw [c3, c2, c1, hcn 12 (by unfold ck; omega)]; rfl
    have hL3 : ∀ K, K = 14 ∨ K = 15 → ∀ L', (K, L') ∈ x_lnl → 3 = L' := fun K hK L' hm => by simp only [x_lnl, List.mem_cons, Prod.mk.injEq, List.not_mem_nil, or_false] at hm; omega
    have P1 := (Q3.newa (K := 14) (n := 3) (by omega) (hL3 14 (by omega)) (by omega)).newa (K := 15) (n := 3) (by omega) (hL3 15 (by omega)) (by omega)
    have e1 : x_cn (x_newa (x_newa H3 14 3) 15 3) 15 = 1 := by show x_cn H3 15 + 1 = 1; omega
    have P2 := P1.puta (A' := fun K j i => ((K = 11 ∧ 0 ≤ i) ∨ (K = 12 ∧ 0 ≤ i)) ∨ (K = 14 ∧ 1 ≤ i) ∨ K = 13 ∨ K = 15) (K := 14) (j := 1) (i := 0) (v := 1) (by omega) ⟨Nat.le_refl 1, by show 1 ≤ x_cn (x_newa (x_newa H3 14 3) 15 3) 15; omega⟩ (fun K j i z => by
      rcases z with ((((z | z) | z) | z) | z) | z
      · exact absurd z (fun w => w)
      · exact Or.inl (Or.inl (Or.inl ⟨z.1, Nat.zero_le _⟩))
      · exact Or.inl (Or.inl (Or.inr ⟨z.1, Nat.zero_le _⟩))
      · exact Or.inl (Or.inr (Or.inr (Or.inl z.1)))
      · have hj : j = 1 := by have := z.2; omega
        by_cases q : i = 0
        · exact Or.inr ⟨z.1, hj, q⟩
        · exact Or.inl (Or.inr (Or.inl ⟨z.1, by omega⟩))
      · exact Or.inl (Or.inr (Or.inr (Or.inr z.1))))
    have hj14 : ∀ j, x_live (x_putr (x_newa (x_newa H3 14 3) 15 3) 14 1 0 1) 14 j → j = 1 := fun j z => by
      have a := z.1
      have b : j ≤ x_cn H3 14 + 1 := z.2
      omega
    have P3 := (P2.newa (K := 15) (n := 3) (by omega) (hL3 15 (by omega)) (by omega)).puta (A' := fun K j i => ((K = 11 ∧ 0 ≤ i) ∨ (K = 12 ∧ 0 ≤ i)) ∨ (K = 14 ∧ (2 ≤ i ∨ j ≠ 1)) ∨ K = 13 ∨ K = 15) (K := 14) (j := 1) (i := 1) (v := 2) (by omega) ⟨by omega, by show 2 ≤ x_cn (x_newa (x_newa H3 14 3) 15 3) 15 + 1; omega⟩ (fun K j i z => by
      rcases z with (z | z | z | z) | z
      · exact Or.inl (Or.inl z)
      · by_cases q : i = 1 ∧ j = 1
        · exact Or.inr ⟨z.1, q.2, q.1⟩
        · exact Or.inl (Or.inr (Or.inl ⟨z.1, by omega⟩))
      · exact Or.inl (Or.inr (Or.inr (Or.inl z)))
      · exact Or.inl (Or.inr (Or.inr (Or.inr z)))
      · exact Or.inl (Or.inr (Or.inr (Or.inr z.1))))
    have P4 := (P3.newa (K := 15) (n := 3) (by omega) (hL3 15 (by omega)) (by omega)).puta (A' := fun K j i => ((K = 11 ∧ 0 ≤ i) ∨ (K = 12 ∧ 0 ≤ i)) ∨ (K = 14 ∧ (3 ≤ i ∨ j ≠ 1)) ∨ K = 13 ∨ K = 15) (K := 14) (j := 1) (i := 2) (v := 3) (by omega) ⟨by omega, by show 3 ≤ x_cn (x_newa (x_newa H3 14 3) 15 3) 15 + 1 + 1; omega⟩ (fun K j i z => by
      rcases z with (z | z | z | z) | z
      · exact Or.inl (Or.inl z)
      · by_cases q : i = 2 ∧ j = 1
        · exact Or.inr ⟨z.1, q.2, q.1⟩
        · exact Or.inl (Or.inr (Or.inl ⟨z.1, by omega⟩))
      · exact Or.inl (Or.inr (Or.inr (Or.inl z)))
      · exact Or.inl (Or.inr (Or.inr (Or.inr z)))
      · exact Or.inl (Or.inr (Or.inr (Or.inr z.1))))
    obtain ⟨q1, q2, q3, q4, q5, q6, q7⟩ := P4
    refine ⟨q1, q2, q3, q4, fun K L j i hm hj hi hA => q5 K L j i hm hj hi (fun z => ?_), q6, q7⟩
    rcases z with z | ⟨rfl, z⟩ | z | z
    · rcases z with ⟨rfl, z⟩ | ⟨rfl, z⟩
      · have a := hj.1
        have b : j ≤ x_cn H3 11 := hj.2
        exact hA (Or.inl (Or.inl ⟨rfl, by omega, z⟩))
      · have a := hj.1
        have b : j ≤ x_cn H3 12 := hj.2
        exact hA (Or.inl (Or.inr ⟨rfl, by omega, z⟩))
    · have a := hj.1
      have b : j ≤ x_cn H3 14 + 1 := hj.2
      exact hA (Or.inr ⟨rfl, by omega⟩)
    · simp only [x_ael, List.mem_cons, Prod.mk.injEq, List.not_mem_nil, or_false] at hm; omega
    · simp only [x_ael, List.mem_cons, Prod.mk.injEq, List.not_mem_nil, or_false] at hm; omega
  generalize hH4 : x_putr (x_newa (x_putr (x_newa (x_putr (x_newa (x_newa H3 14 3) 15 3) 14 1 0 1) 15 3) 14 1 1 2) 15 3) 14 1 2 3 = H4 at Q4 ⊢
  have c4 : ∀ K, x_cn H4 K = x_cn H3 K + (if K = 14 then 1 else if K = 15 then 3 else 0) := by
    intro K
    rw [← hH4]
    show x_cn (x_newa (x_newa (x_newa (x_newa H3 14 3) 15 3) 15 3) 15 3) K = _
    simp only [x_newa_cn]
    by_cases e : K = 15
    · subst e; simp
    · by_cases e2 : K = 14
      · subst e2; simp
      · simp [e, e2]
  have v4 : ∀ k', x_vr H4 7 k' 1 = x_vr H3 7 k' 1 := fun k' => by rw [← hH4]; rfl
  have nt4 : NT (x_putr H4 7 3 1 1) := by
    have k13 : x_cn H2 13 = 0 := by rw [c2, c1, hcn 13 (by unfold ck; omega)]; rfl
    rw [k13] at an3
    have b1 : x_cn (x_newa H3 14 3) 15 = 0 := k15
    have b2 : x_cn (x_putr (x_newa (x_newa H3 14 3) 15 3) 14 1 0 1) 15 = 1 := by show x_cn H3 15 + 1 = 1; omega
    have b3 : x_cn (x_putr (x_newa (x_putr (x_newa (x_newa H3 14 3) 15 3) 14 1 0 1) 15 3) 14 1 1 2) 15 = 2 := by show x_cn H3 15 + 1 + 1 = 2; omega
    refine ⟨fun i => ?_, fun o ho => ⟨?_, fun i => ?_⟩⟩
    · rw [x_vr_putr, if_neg (by omega), ← hH4]
      exact an3 i
    · rw [x_vr_putr, if_neg (by omega), ← hH4]
      rw [x_vr_putr]
      by_cases e2 : o = 2
      · rw [if_pos ⟨rfl, rfl, e2⟩, e2]
      · rw [if_neg (fun z => e2 z.2.2)]
        refine Eq.trans (b := x_vr (x_putr (x_newa (x_putr (x_newa (x_newa H3 14 3) 15 3) 14 1 0 1) 15 3) 14 1 1 2) 14 1 o) rfl ?_
        rw [x_vr_putr]
        by_cases e1 : o = 1
        · rw [if_pos ⟨rfl, rfl, e1⟩, e1]
        · rw [if_neg (fun z => e1 z.2.2)]
          refine Eq.trans (b := x_vr (x_putr (x_newa (x_newa H3 14 3) 15 3) 14 1 0 1) 14 1 o) rfl ?_
          rw [x_vr_putr, if_pos ⟨rfl, rfl, by omega⟩]
          omega
    · rw [← hH4]
      show (if 15 = 15 ∧ o + 1 = x_cn (x_putr (x_newa (x_putr (x_newa (x_newa H3 14 3) 15 3) 14 1 0 1) 15 3) 14 1 1 2) 15 + 1 then 0 else (if 15 = 15 ∧ o + 1 = x_cn (x_putr (x_newa (x_newa H3 14 3) 15 3) 14 1 0 1) 15 + 1 then 0 else (if 15 = 15 ∧ o + 1 = x_cn (x_newa H3 14 3) 15 + 1 then 0 else x_vi (x_newa H3 14 3) 15 (o + 1) i))) = (0 : Int32)
      by_cases e2 : o = 2
      · exact if_pos (show 15 = 15 ∧ o + 1 = x_cn (x_putr (x_newa (x_putr (x_newa (x_newa H3 14 3) 15 3) 14 1 0 1) 15 3) 14 1 1 2) 15 + 1 from ⟨rfl, by rw [b3]; omega⟩)
      · refine (if_neg (show ¬ (15 = 15 ∧ o + 1 = x_cn (x_putr (x_newa (x_putr (x_newa (x_newa H3 14 3) 15 3) 14 1 0 1) 15 3) 14 1 1 2) 15 + 1) from fun z => by have z2 := z.2; rw [b3] at z2; omega)).trans ?_
        by_cases e1 : o = 1
        · exact if_pos (show 15 = 15 ∧ o + 1 = x_cn (x_putr (x_newa (x_newa H3 14 3) 15 3) 14 1 0 1) 15 + 1 from ⟨rfl, by rw [b2]; omega⟩)
        · refine (if_neg (show ¬ (15 = 15 ∧ o + 1 = x_cn (x_putr (x_newa (x_newa H3 14 3) 15 3) 14 1 0 1) 15 + 1) from fun z => by have z2 := z.2; rw [b2] at z2; omega)).trans ?_
          exact if_pos (show 15 = 15 ∧ o + 1 = x_cn (x_newa H3 14 3) 15 + 1 from ⟨rfl, by rw [b1]; omega⟩)
  have ce4 : x_ce H4 = 7 := by rw [← hH4]; show x_ce H3 + 1 + 1 + 1 + 1 = 7; omega
  have so4 : x_so H4 = 103 := by rw [← hH4]; show x_so H3 + 3 + 3 + 3 + 3 = 103; omega
  have mq4 : x_mq H4 = x_mq h := by
    rw [← hH4, x_mq_putr rfl, x_mq_newa rfl, x_mq_putr rfl, x_mq_newa rfl, x_mq_putr rfl, x_mq_newa rfl, x_mq_newa rfl, mq3, mq2, mq1]
  have l4 : x_live H4 7 1 := ⟨g0.1, by rw [c4, if_neg (by decide), if_neg (by decide)]; exact l3.2⟩
  refine q_pfr l4 ?_
  have l14 : x_live H4 14 1 := ⟨Nat.le_refl 1, by rw [c4, if_pos rfl]; omega⟩
  have Q5 := Q4.putr (K := 7) (k := 3) (j := 1) (v := 1) (by omega) l14
  have c5 : ∀ K, ck K → x_cn (x_putr H4 7 3 1 1) K = ct_c K 0 0 := by
    intro K hk
    show x_cn H4 K = _
    rw [c4, c3, c2, c1, hcn K hk]
    unfold ck at hk
    unfold ct_c
    rcases (show K = 0 ∨ K = 1 ∨ K = 2 ∨ K = 3 ∨ K = 4 ∨ K = 5 ∨ K = 6 ∨ K = 7 ∨ K = 9 ∨ K = 11 ∨ K = 12 ∨ K = 13 ∨ K = 14 ∨ K = 15 ∨ K = 16 ∨ K = 17 ∨ K = 18 ∨ K = 19 ∨ K = 20 by omega) with rfl | rfl | rfl | rfl | rfl | rfl | rfl | rfl | rfl | rfl | rfl | rfl | rfl | rfl | rfl | rfl | rfl | rfl | rfl <;> rfl
  have Q6 : QI (x_putr H4 7 3 1 1) (fun _ _ => False) (fun K j i => (K = 11 ∧ j = 1 ∧ 0 ≤ i) ∨ (K = 12 ∧ j = 1 ∧ 0 ≤ i)) := by
    refine Q5.done (fun K j z => ?_) (fun K j i z => ?_)
    · obtain ⟨rfl, rfl⟩ := z
      refine Or.inr (fun k hm => ?_)
      have hk : k = 0 ∨ k = 1 ∨ k = 2 ∨ k = 3 := by simp only [x_nnl, List.mem_cons, Prod.mk.injEq, List.not_mem_nil, or_false] at hm; omega
      have lv : ∀ K, ck K → ct_c K 0 0 = 1 → x_live (x_putr H4 7 3 1 1) K 1 := fun K hk e => ⟨Nat.le_refl 1, by rw [c5 K hk, e]; exact Nat.le_refl 1⟩
      have k11 : x_cn h 11 = 0 := by rw [hcn 11 (by unfold ck; omega)]; rfl
      have k12 : x_cn H1 12 = 0 := by rw [c1, hcn 12 (by unfold ck; omega)]; rfl
      have k13 : x_cn H2 13 = 0 := by rw [c2, c1, hcn 13 (by unfold ck; omega)]; rfl
      rcases hk with rfl | rfl | rfl | rfl
      · rw [x_vr_putr, if_neg (by omega), v4, v3, if_neg (by decide), v2, if_neg (by decide), v1, if_pos rfl, k11]; exact lv 11 (by unfold ck; omega) rfl
      · rw [x_vr_putr, if_neg (by omega), v4, v3, if_neg (by decide), v2, if_pos rfl, k12]; exact lv 12 (by unfold ck; omega) rfl
      · rw [x_vr_putr, if_neg (by omega), v4, v3, if_pos rfl, k13]; exact lv 13 (by unfold ck; omega) rfl
      · rw [x_vr_putr, if_pos ⟨rfl, rfl, rfl⟩]; exact lv 14 (by unfold ck; omega) rfl
    · rcases z with z | ⟨rfl, z⟩
      · exact Or.inl z
      · refine Or.inr (fun L => ?_)
        by_cases q : (14, L) ∈ x_ael
        · refine Or.inr ?_
          simp only [x_ael, List.mem_cons, Prod.mk.injEq, List.not_mem_nil, or_false] at q
          omega
        · exact Or.inl q
  have ce5 : x_ce (x_putr H4 7 3 1 1) = 7 := ce4
  have so5 : x_so (x_putr H4 7 3 1 1) = 103 := so4
  have mq5 : x_mq (x_putr H4 7 3 1 1) = x_mq h := (x_mq_putr rfl).trans mq4
  generalize x_putr H4 7 3 1 1 = H at Q6 c5 ce5 so5 mq5 nt4 ⊢
  have lp : ∀ (m : Nat) (o : Int32) (w : xV) (H : xH), QI H (fun _ _ => False) (fun K j i => (K = 11 ∧ j = 1 ∧ o.toNatClampNeg ≤ i) ∨ (K = 12 ∧ j = 1 ∧ 24 * o.toNatClampNeg ≤ i)) → (0 ≤ o.toInt ∧ o.toInt ≤ 3) → (∀ K, ck K → x_cn H K = ct_c K o.toNatClampNeg (24 * o.toNatClampNeg)) → x_ce H = 7 + 113 * o.toNatClampNeg → x_so H = 103 + 1366 * o.toNatClampNeg → x_mq H = x_mq h → NS o.toNatClampNeg (24 * o.toNatClampNeg) H → (3 - o.toInt).toNat < m → xR (20 + 1200 * m) 43 42 ([.inr (.inr (7, 1)), .inl o, w], [], H) Z := by
    intro m
    induction m with
    | zero => intro o w H _ _ _ _ _ _ _ hm; exact absurd hm (by omega)
    | succ m ih =>
      intro o w H Q ho hcn hce hso hmq hni hm
      have co := x_clamp ho.1
      rw [show 20 + 1200 * (m + 1) = 20 + 1200 * m + 1200 by omega]
      have l7 : x_live H 7 1 := ⟨Nat.le_refl 1, by rw [hcn 7 (by unfold ck; omega)]; exact Nat.le_refl 1⟩
      have e11 : x_vr H 7 0 1 = 1 := by
        have q := Q.1 7 0 1 (by decide) l7 (fun z => z)
        have a := q.1
        have b : x_vr H 7 0 1 ≤ x_cn H 11 := q.2
        rw [hcn 11 (by unfold ck; omega)] at b
        have b : x_vr H 7 0 1 ≤ 1 := b
        omega
      refine xR.blk c43_42 ?_
      refine q_iload rfl (v_iconst (k := 3) rfl (fun v1 e1 => v_icmp_ge (fun d => ?_) (fun d => ?_)))
      · refine xR.up (xR.blk (n := 5) c43_110 (q_ret (hZ _ (CI.ofQ Q (fun K j i z L => ?_) (fun K hk => ?_)) hmq (by rw [show o.toNatClampNeg = 3 by omega] at hni; exact hni) (by rw [show o.toNatClampNeg = 3 by omega] at hcn; exact hcn)))) (by omega)
        · rcases z with ⟨rfl, z⟩ | ⟨rfl, z⟩
          · by_cases q : (11, L) ∈ x_ael
            · refine Or.inr ?_
              simp only [x_ael, List.mem_cons, Prod.mk.injEq, List.not_mem_nil, or_false] at q
              omega
            · exact Or.inl q
          · by_cases q : (12, L) ∈ x_ael
            · refine Or.inr ?_
              simp only [x_ael, List.mem_cons, Prod.mk.injEq, List.not_mem_nil, or_false] at q
              omega
            · exact Or.inl q
        · rw [hcn K hk, show o.toNatClampNeg = 3 by omega]
      · refine q_aload rfl (by decide) (q_gfr l7 ?_)
        rw [e11]
        have l3 : x_live (x_new H 3 9) 3 (x_cn H 3 + 1) := x_new_lv.mpr (Or.inr ⟨rfl, rfl⟩)
        refine q_iload rfl (q_newo (by omega) (by omega) (q_dup rfl (q_iload rfl (q_calli rfl (by decide) l3.1 (by decide) (Nat.le_of_ble_eq_true rfl) (Nat.le_of_ble_eq_true rfl) (by show x_ce H + 1 + 40 ≤ 1000; omega) (by show x_so H + 9 + 373 ≤ 6000; omega) ?_))))
        refine xC.up (tx13 (h := x_setc (x_new H 3 9) 0 0) (x0 := x_cn H 3 + 1) (x1 := o) (Q.new (K := 3) (N := 9) (by omega)) rfl rfl l3 (by omega) (fun k => if_pos (c := 3 = 3 ∧ x_cn H 3 + 1 = x_cn H 3 + 1) ⟨rfl, rfl⟩) (fun g Qg cg mg flg => ?_)) (by omega)
        have Qg2 := Qg.done (E' := fun _ _ => False) (A' := fun K j i => (K = 11 ∧ j = 1 ∧ o.toNatClampNeg ≤ i) ∨ (K = 12 ∧ j = 1 ∧ 24 * o.toNatClampNeg ≤ i)) (fun K j z => Or.inl (z.2 (z.1.resolve_left (fun w => w)))) (fun K j i z => Or.inl z)
        have cg2 : ∀ K, ck K → x_cn g K = ct_c K (o.toNatClampNeg + 1) (24 * o.toNatClampNeg) := by
          intro K hk
          have hK := hcn K hk
          have h3 := hcn 3 (by unfold ck; omega)
          rw [cg K]
          show x_cn (x_new H 3 9) K + _ = _
          rw [x_new_cn]
          unfold ck at hk
          rcases (show K = 0 ∨ K = 1 ∨ K = 2 ∨ K = 3 ∨ K = 4 ∨ K = 5 ∨ K = 6 ∨ K = 7 ∨ K = 9 ∨ K = 11 ∨ K = 12 ∨ K = 13 ∨ K = 14 ∨ K = 15 ∨ K = 16 ∨ K = 17 ∨ K = 18 ∨ K = 19 ∨ K = 20 by omega) with rfl | rfl | rfl | rfl | rfl | rfl | rfl | rfl | rfl | rfl | rfl | rfl | rfl | rfl | rfl | rfl | rfl | rfl | rfl <;> simp [ct_c, of_c] at hK h3 ⊢ <;> omega
        have k3 : x_cn H 3 = o.toNatClampNeg := by rw [hcn 3 (by unfold ck; omega)]; rfl
        have l11 : x_live g 11 1 := ⟨Nat.le_refl 1, by rw [cg2 11 (by unfold ck; omega)]; exact Nat.le_refl 1⟩
        have ln11 : x_ln g 11 1 = 3 := Qg2.2.2.2.1 11 3 1 (by decide) l11
        have l3g : x_live g 3 (x_cn H 3 + 1) := ⟨by omega, by rw [cg2 3 (by unfold ck; omega), k3]; exact Nat.le_refl _⟩
        refine q_aast (show x_live g 11 1 from l11) ⟨ho.1, by show o.toInt < (x_ln g 11 1 : Int); rw [ln11]; omega⟩ ?_
        have Q2 := Qg2.puta (A' := fun K j i => (K = 11 ∧ j = 1 ∧ o.toNatClampNeg + 1 ≤ i) ∨ (K = 12 ∧ j = 1 ∧ 24 * o.toNatClampNeg + 0 ≤ i)) (K := 11) (j := 1) (i := o.toNatClampNeg) (v := x_cn H 3 + 1) (by omega) l3g (fun K j i z => by
          rcases z with ⟨z1, z2, z3⟩ | z
          · by_cases q : i = o.toNatClampNeg
            · exact Or.inr ⟨z1, z2, q⟩
            · exact Or.inl (Or.inl ⟨z1, z2, by omega⟩)
          · exact Or.inl (Or.inr z))
        have mq2 : x_mq (x_putr g 11 1 o.toNatClampNeg (x_cn H 3 + 1)) = x_mq h := (x_mq_putr rfl).trans (mg.trans ((x_mq_new (h := H) (K := 3) (N := 9) rfl).trans hmq))
        have ni2 : NS (o.toNatClampNeg + 1) (24 * o.toNatClampNeg) (x_putr g 11 1 o.toNatClampNeg (x_cn H 3 + 1)) := NS.off hni flg hcn co (by omega)
        refine v_iconst (k := 0) rfl (fun n0 en0 => q_istore (Nat.le_of_ble_eq_true rfl) (q_goto ?_))
        have li : ∀ (u : Nat) (n : Int32) (G : xH), QI G (fun _ _ => False) (fun K j i => (K = 11 ∧ j = 1 ∧ o.toNatClampNeg + 1 ≤ i) ∨ (K = 12 ∧ j = 1 ∧ 24 * o.toNatClampNeg + n.toNatClampNeg ≤ i)) → (0 ≤ n.toInt ∧ n.toInt ≤ 24) → (∀ K, ck K → x_cn G K = ct_c K (o.toNatClampNeg + 1) (24 * o.toNatClampNeg + n.toNatClampNeg)) → x_ce G = 48 + 113 * o.toNatClampNeg + 3 * n.toNatClampNeg → x_so G = 485 + 1366 * o.toNatClampNeg + 41 * n.toNatClampNeg → x_mq G = x_mq h → NS (o.toNatClampNeg + 1) (24 * o.toNatClampNeg + n.toNatClampNeg) G → (24 - n.toInt).toNat < u → xR (20 + 1200 * m + 40 + 8 * u) 43 63 ([.inr (.inr (7, 1)), .inl o, .inl n], [], G) Z := by
          intro u
          induction u with
          | zero => intro n G _ _ _ _ _ _ _ hu; exact absurd hu (by omega)
          | succ u ihu =>
            intro n G P hn gcn gce gso gmq gni hu
            have cn := x_clamp hn.1
            rw [show 20 + 1200 * m + 40 + 8 * (u + 1) = 20 + 1200 * m + 40 + 8 * u + 8 by omega]
            have m7 : x_live G 7 1 := ⟨Nat.le_refl 1, by rw [gcn 7 (by unfold ck; omega)]; exact Nat.le_refl 1⟩
            have m11 : x_live G 11 1 := ⟨Nat.le_refl 1, by rw [gcn 11 (by unfold ck; omega)]; exact Nat.le_refl 1⟩
            have m12 : x_live G 12 1 := ⟨Nat.le_refl 1, by rw [gcn 12 (by unfold ck; omega)]; exact Nat.le_refl 1⟩
            have f11 : x_vr G 7 0 1 = 1 := by
              have q := P.1 7 0 1 (by decide) m7 (fun z => z)
              have a := q.1
              have b : x_vr G 7 0 1 ≤ x_cn G 11 := q.2
              rw [gcn 11 (by unfold ck; omega)] at b
              have b : x_vr G 7 0 1 ≤ 1 := b
              omega
            have f12 : x_vr G 7 1 1 = 1 := by
              have q := P.1 7 1 1 (by decide) m7 (fun z => z)
              have a := q.1
              have b : x_vr G 7 1 1 ≤ x_cn G 12 := q.2
              rw [gcn 12 (by unfold ck; omega)] at b
              have b : x_vr G 7 1 1 ≤ 1 := b
              omega
            have n11 : x_ln G 11 1 = 3 := P.2.2.2.1 11 3 1 (by decide) m11
            have n12 : x_ln G 12 1 = 72 := P.2.2.2.1 12 72 1 (by decide) m12
            refine xR.blk c43_63 ?_
            refine q_iload rfl (v_iconst (k := 24) rfl (fun v1 e1 => v_icmp_ge (fun d2 => ?_) (fun d2 => ?_)))
            · refine xR.up (xR.blk (n := 20 + 1200 * m) c43_104 (v_iinc (k := 1) rfl rfl (by omega) (by omega) (fun o2 eo2 => q_goto ?_))) (by omega)
              have co2 := x_clamp (n := o2) (by omega)
              have n24 : n.toNatClampNeg = 24 := by omega
              rw [n24] at P gcn gce gso
              have eo : o2.toNatClampNeg = o.toNatClampNeg + 1 := by omega
              refine ih o2 _ G ?_ (by omega) ?_ (by omega) (by omega) gmq (by rw [eo, show 24 * (o.toNatClampNeg + 1) = 24 * o.toNatClampNeg + 24 by omega]; rw [n24] at gni; exact gni) (by omega)
              · rw [eo, show 24 * (o.toNatClampNeg + 1) = 24 * o.toNatClampNeg + 24 by omega]; exact P
              · rw [eo, show 24 * (o.toNatClampNeg + 1) = 24 * o.toNatClampNeg + 24 by omega]; exact gcn
            · have l3o : x_live G 3 (x_vr G 11 1 o.toNatClampNeg) := P.2.2.2.2.1 11 3 1 o.toNatClampNeg (by decide) m11 (by omega) (fun z => by rcases z with ⟨z1, z2⟩ | ⟨z1, z2⟩ <;> omega)
              have l16 : x_live G 16 (x_vr G 3 1 (x_vr G 11 1 o.toNatClampNeg)) := P.1 3 1 _ (by decide) l3o (fun z => z)
              have n16 : x_ln G 16 (x_vr G 3 1 (x_vr G 11 1 o.toNatClampNeg)) = 24 := P.2.2.2.1 16 24 _ (by decide) l16
              have l2o : x_live G 2 (x_vr G 16 (x_vr G 3 1 (x_vr G 11 1 o.toNatClampNeg)) n.toNatClampNeg) := P.2.2.2.2.1 16 24 _ n.toNatClampNeg (by decide) l16 (by omega) (fun z => by rcases z with ⟨z1, z2⟩ | ⟨z1, z2⟩ <;> omega)
              generalize hln : x_vr G 16 (x_vr G 3 1 (x_vr G 11 1 o.toNatClampNeg)) n.toNatClampNeg = ln at l2o
              refine q_aload rfl (by decide) (q_gfr m7 ?_)
              rw [f12]
              refine q_iload rfl (v_iconst (k := 24) rfl (fun w1 g1 => v_imul g1 (by omega) (fun w2 g2 => q_iload rfl (v_iadd (by omega) (fun w3 g3 => ?_)))))
              have cw := x_clamp (n := w3) (by omega)
              refine q_newo (by omega) (by omega) (q_dup rfl (q_aload rfl (by decide) (q_gfr (x_new_up m7) ?_)))
              rw [show x_vr (x_new G 1 15) 7 0 1 = 1 from f11]
              refine q_iload rfl (q_aald (x_new_up m11) ⟨ho.1, by show o.toInt < (x_ln G 11 1 : Int); rw [n11]; omega⟩ (q_gfr (x_new_up l3o) (q_iload rfl (q_aald (x_new_up l16) ⟨hn.1, by show n.toInt < (x_ln G 16 (x_vr G 3 1 (x_vr G 11 1 o.toNatClampNeg)) : Int); rw [n16]; omega⟩ ?_))))
              rw [show x_vr (x_new G 1 15) 16 (x_vr (x_new G 1 15) 3 1 (x_vr (x_new G 1 15) 11 1 o.toNatClampNeg)) n.toNatClampNeg = ln from hln]
              refine q_calli rfl (by decide) (by omega) (by decide) (Nat.le_of_ble_eq_true rfl) (Nat.le_of_ble_eq_true rfl) (by show x_ce G + 1 + 2 ≤ 1000; omega) (by show x_so G + 15 + 26 ≤ 6000; omega) ?_
              refine xC.up (tv1 (h := G) (x1 := ln) (fun g hg => ?_)) (by omega)
              obtain ⟨a', b', rfl⟩ := hg
              have k9 : x_cn G 9 = 6 := by rw [gcn 9 (by unfold ck; omega)]; rfl
              have k1 : x_cn G 1 = 24 * o.toNatClampNeg + n.toNatClampNeg := by rw [gcn 1 (by unfold ck; omega)]; rfl
              have P1 := P.call l2o k9
              have p12 : x_live (cl_h G ln) 12 1 := ⟨Nat.le_refl 1, by rw [cl_cn]; exact Nat.le_trans m12.2 (Nat.le_add_right _ _)⟩
              have p1 : x_live (cl_h G ln) 1 (x_cn G 1 + 1) := ⟨by omega, by rw [cl_cn]; simp⟩
              refine q_aast (show x_live (cl_h G ln) 12 1 from p12) ⟨by omega, by show w3.toInt < (x_ln G 12 1 : Int); rw [n12]; omega⟩ ?_
              refine v_iinc (k := 1) rfl rfl (by omega) (by omega) (fun n2 en2 => q_goto ?_)
              have cn2 := x_clamp (n := n2) (by omega)
              have en : n2.toNatClampNeg = n.toNatClampNeg + 1 := by omega
              refine xR.up (ihu n2 _ ?_ (by omega) ?_ ?_ ?_ ?_ ?_ (by omega)) (by omega)
              · refine QI.puta (K := 12) (j := 1) (i := w3.toNatClampNeg) (v := x_cn G 1 + 1) P1 (by omega) p1 (fun K j i z => ?_)
                rcases z with z | ⟨z1, z2, z3⟩
                · exact Or.inl (Or.inl z)
                · by_cases q : i = w3.toNatClampNeg
                  · exact Or.inr ⟨z1, z2, q⟩
                  · exact Or.inl (Or.inr ⟨z1, z2, by omega⟩)
              · intro K hk
                have hK := gcn K hk
                show x_cn (cl_h G ln) K = _
                rw [cl_cn, hK, en]
                unfold ck at hk
                rcases (show K = 0 ∨ K = 1 ∨ K = 2 ∨ K = 3 ∨ K = 4 ∨ K = 5 ∨ K = 6 ∨ K = 7 ∨ K = 9 ∨ K = 11 ∨ K = 12 ∨ K = 13 ∨ K = 14 ∨ K = 15 ∨ K = 16 ∨ K = 17 ∨ K = 18 ∨ K = 19 ∨ K = 20 by omega) with rfl | rfl | rfl | rfl | rfl | rfl | rfl | rfl | rfl | rfl | rfl | rfl | rfl | rfl | rfl | rfl | rfl | rfl | rfl <;> simp [ct_c] <;> omega
              · show x_ce G + 1 + 2 = _
                omega
              · show x_so G + 15 + 26 = _
                omega
              · refine Eq.trans ?_ gmq
                refine Eq.trans (x_mq_putr (h := cl_h G ln) rfl) ?_
                unfold cl_h
                rw [x_mq_putr rfl, x_mq_putr rfl, x_mq_putr rfl, x_mq_putr rfl, x_mq_newa rfl, x_mq_new rfl, x_mq_new rfl]
              · rw [en]
                have hl9 : ln = 24 * o.toNatClampNeg + n.toNatClampNeg + 1 := by
                  have oc := gni.1 o.toNatClampNeg (by omega)
                  rw [← hln, oc.1, oc.2.1.1]
                  exact (oc.2.2.2.2.2.2 n.toNatClampNeg (by omega)).1
                have hw9 : w3.toNatClampNeg = 24 * o.toNatClampNeg + n.toNatClampNeg := by omega
                rw [hw9, hl9]
                exact (NS.call gni gcn (by omega) (by omega)).congr rfl rfl rfl
        have cn0 := x_clamp (n := n0) (by omega)
        have n00 : n0.toNatClampNeg = 0 := by omega
        refine xR.up (li 25 n0 _ ?_ (by omega) ?_ ?_ ?_ mq2 (by rw [n00]; exact ni2.congr rfl rfl rfl) (by omega)) (by omega)
        · rw [n00]; exact Q2
        · rw [n00]; exact cg2
        · show x_ce H + 1 + 40 = _
          omega
        · show x_so H + 9 + 373 = _
          omega
  refine v_iconst (k := 0) rfl (fun z0 ez0 => q_istore (Nat.le_of_ble_eq_true rfl) (q_goto ?_))
  have cz := x_clamp (n := z0) (by omega)
  have z00 : z0.toNatClampNeg = 0 := by omega
  refine (lp 4 z0 _ H (by rw [z00]; exact Q6) (by omega) (by rw [z00]; exact c5) (by omega) (by omega) mq5 (by rw [z00]; exact ⟨fun o' ho' => absurd ho' (by omega), fun j j1 => absurd j1 (by omega), nt4⟩) (by omega)).up (by omega)
