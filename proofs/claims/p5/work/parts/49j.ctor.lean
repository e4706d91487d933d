/-! WHICH OBJECT IS WHICH LINE: the constructors once more (printed by make_ctor.py) -/
/-- from H to H' the old arrays of lines, the other offices, the table of offices, the lines' hooks stay -/
def FM (H H' : xH) (x0 : Nat) : Prop := (∀ j i, j ≤ x_cn H 16 → x_vr H' 16 j i = x_vr H 16 j i) ∧ (∀ j, j ≠ x0 → x_vr H' 3 1 j = x_vr H 3 1 j) ∧ (∀ j i, x_vr H' 11 j i = x_vr H 11 j i) ∧ (∀ j, x_vi H' 2 2 j = x_vi H 2 2 j) ∧ x_cn H 16 ≤ x_cn H' 16
theorem FM.tr {H H' H'' : xH} {x0 : Nat} (a : FM H H' x0) (b : FM H' H'' x0) : FM H H'' x0 := by
  obtain ⟨a1, a2, a3, a4, a5⟩ := a
  obtain ⟨b1, b2, b3, b4, b5⟩ := b
  exact ⟨fun j i hj => (b1 j i (by omega)).trans (a1 j i hj), fun j hj => (b2 j hj).trans (a2 j hj), fun j i => (b3 j i).trans (a3 j i), fun j => (b4 j).trans (a4 j), by omega⟩
/-- an office's lines: those of the numbers behind x_cn h 2 -/
def FL (h H : xH) (x0 n : Nat) : Prop := (∀ m, m < n → x_vr H 16 (x_cn h 16 + 1) m = x_cn h 2 + m + 1) ∧ (∀ j i, j ≤ x_cn h 16 → x_vr H 16 j i = x_vr h 16 j i) ∧ (∀ j, j ≠ x0 → x_vr H 3 1 j = x_vr h 3 1 j) ∧ (∀ j i, x_vr H 11 j i = x_vr h 11 j i) ∧ (∀ j, x_vi H 2 2 j = if x_cn h 2 < j ∧ j ≤ x_cn H 2 then 0 else x_vi h 2 2 j)
section XNX
variable {n1 n2 n3 n4 n5 n6 n : Nat} {r : List (Nat × xI)} {Z : xO → xH → Prop} {J : Nat → xS → Prop} {ls : List xV} {H : xH} {E : Nat → Nat → Prop} {A : Nat → Nat → Nat → Prop} {x0 a b : Nat}
theorem wx_arr {K L k : Nat} {v : Int32} (hxm : xm_k K = false) (Q : QI H E A) (hl : ls[0]? = some (.inr (.inr (3, x0)))) (hK : 11 ≤ K ∧ K ≠ 20) (hK2 : 16 ≤ K) (hL : ∀ L', (K, L') ∈ x_lnl → L = L') (hv : v.toInt = L) (hL2 : L ≤ 100) (hft : x_ft 3 k = K) (g0 : x_live H 3 x0) (hce : x_ce H = a) (hso : x_so H = b) (ha : a + 1 ≤ 40) (hb : b + L ≤ 373)
    (kk : ∀ H', QI H' E (fun K' j i => A K' j i ∨ (K' = K ∧ j = x_cn H K + 1)) → (∀ K', x_cn H' K' = x_cn H K' + if K' = K then 1 else 0) → (∀ k', x_vr H' 3 k' x0 = if k' = k then x_cn H K + 1 else x_vr H 3 k' x0) → x_ce H' = a + 1 → x_so H' = b + L → x_mq H' = x_mq H → FM H H' x0 → x_seq r (xC n) Z J (ls, [], H')) :
    x_seq ((n1, x_aload 0) :: (n2, x_iconst v) :: (n3, x_newr K 40 373) :: (n4, x_pfr 3 k K) :: r) (xC n) Z J (ls, [], H) := by
  have hcl : v.toNatClampNeg = L := by have := x_clamp (n := v) (by omega); omega
  refine q_aload hl (by decide) (q_iconst (q_newr (by omega) (by omega) (by omega) (by omega) ?_))
  rw [hcl]
  have l3 : x_live (x_newa H K L) 3 x0 := x_newa_lv.mpr (Or.inl g0)
  have lK : x_live (x_newa H K L) K (x_cn H K + 1) := x_newa_lv.mpr (Or.inr ⟨rfl, rfl⟩)
  refine q_pfr l3 (kk _ ((Q.newa hK.1 hL (fun z => absurd z hK.2)).putr (by omega) (by rw [hft]; exact lK)) (fun K' => ?_) (fun k' => ?_) ?_ ?_ ((x_mq_putr rfl).trans (x_mq_newa hxm)) ?_)
  · show x_cn (x_newa H K L) K' = _
    rw [x_newa_cn]
    by_cases e : K' = K
    · rw [if_pos e, if_pos e, e]
    · rw [if_neg e, if_neg e]; omega
  · rw [x_vr_putr]
    by_cases e : k' = k
    · rw [if_pos ⟨rfl, e, rfl⟩, if_pos e]
    · rw [if_neg (fun z => e z.2.1), if_neg e]
      exact if_neg (fun z => by omega)
  · show x_ce H + 1 = _
    rw [hce]
  · show x_so H + L = _
    rw [hso]
  · refine ⟨fun j i hj => ?_, fun j hj => ?_, fun j i => ?_, fun j => if_neg (fun z => by omega), ?_⟩
    · rw [x_vr_putr, if_neg (by omega)]
      refine if_neg (fun z => ?_)
      have z1 := z.1
      subst z1
      have z2 : j = x_cn H 16 + 1 := z.2
      omega
    · rw [x_vr_putr, if_neg (fun z => hj z.2.2)]
      exact if_neg (fun z => by omega)
    · rw [x_vr_putr, if_neg (by omega)]
      exact if_neg (fun z => by omega)
    · show x_cn H 16 ≤ x_cn (x_newa H K L) 16
      rw [x_newa_cn]
      by_cases e : 16 = K
      · rw [if_pos e, ← e]; omega
      · rw [if_neg e]; exact Nat.le_refl _
theorem wx_row {k : Nat} {v : Int32} (Q : QI H E A) (hl : ls[0]? = some (.inr (.inr (3, x0)))) (hv : 0 ≤ v.toInt ∧ v.toInt ≤ 24) (hft : x_ft 3 k = 5) (g0 : x_live H 3 x0) (hce : x_ce H = a) (hso : x_so H = b) (ha : a + 2 ≤ 40) (hb : b + 26 ≤ 373) (hn : 10 ≤ n)
    (kk : ∀ H', QI H' E A → (∀ K', x_cn H' K' = x_cn H K' + if K' = 5 ∨ K' = 20 then 1 else 0) → (∀ k', x_vr H' 3 k' x0 = if k' = k then x_cn H 5 + 1 else x_vr H 3 k' x0) → x_ce H' = a + 2 → x_so H' = b + 26 → x_mq H' = x_mq H → FM H H' x0 → x_seq r (xC n) Z J (ls, [], H')) :
    x_seq ((n1, x_aload 0) :: (n2, x_newo 5 2 40 373) :: (n3, x_dup) :: (n4, x_iconst v) :: (n5, x_calli 0 2 1 24 40 373) :: (n6, x_pfr 3 k 5) :: r) (xC n) Z J (ls, [], H) := by
  have hcl : (v.toNatClampNeg : Int) = v.toInt := x_clamp hv.1
  have l5 : x_live (x_new H 5 2) 5 (x_cn H 5 + 1) := x_new_lv.mpr (Or.inr ⟨rfl, rfl⟩)
  refine q_aload hl (by decide) (q_newo (by omega) (by omega) (q_dup rfl (q_iconst (q_calli rfl (by decide) l5.1 (by decide) (Nat.le_of_ble_eq_true rfl) (Nat.le_of_ble_eq_true rfl) (by show x_ce H + 1 + 1 ≤ 40; omega) (by show x_so H + 2 + 24 ≤ 373; omega) ?_))))
  refine xC.up (tv0 (h := x_setc (x_new H 5 2) 0 0) (x0 := x_cn H 5 + 1) (x1 := v) rfl rfl l5 hv ?_) hn
  have Q1 := Q.row (n := v.toNatClampNeg) (by omega)
  have l3 : x_live (x_putr (x_newa (x_new H 5 2) 20 v.toNatClampNeg) 5 0 (x_cn H 5 + 1) (x_cn H 20 + 1)) 3 x0 := (show x_live (x_newa (x_new H 5 2) 20 v.toNatClampNeg) 3 x0 from x_newa_lv.mpr (Or.inl (x_new_up g0)))
  have l5' : x_live (x_putr (x_newa (x_new H 5 2) 20 v.toNatClampNeg) 5 0 (x_cn H 5 + 1) (x_cn H 20 + 1)) 5 (x_cn H 5 + 1) := (show x_live (x_newa (x_new H 5 2) 20 v.toNatClampNeg) 5 (x_cn H 5 + 1) from x_newa_lv.mpr (Or.inl l5))
  refine q_pfr l3 (kk _ (Q1.putr (K := 3) (k := k) (j := x0) (by omega) (by rw [hft]; exact l5')) (fun K' => ?_) (fun k' => ?_) ?_ ?_ (((x_mq_putr (h := x_putr (x_newa (x_new H 5 2) 20 v.toNatClampNeg) 5 0 (x_cn H 5 + 1) (x_cn H 20 + 1)) rfl).trans ((x_mq_putr rfl).trans ((x_mq_newa rfl).trans (x_mq_new rfl))))) ?_)
  · show x_cn (x_newa (x_new H 5 2) 20 v.toNatClampNeg) K' = _
    simp only [x_newa_cn, x_new_cn]
    by_cases e : K' = 20
    · subst e; simp
    · by_cases e2 : K' = 5
      · subst e2; simp
      · simp [e, e2]
  · show x_vr (x_putr (x_putr (x_newa (x_new H 5 2) 20 v.toNatClampNeg) 5 0 (x_cn H 5 + 1) (x_cn H 20 + 1)) 3 k x0 (x_cn H 5 + 1)) 3 k' x0 = _
    rw [x_vr_putr]
    by_cases e : k' = k
    · rw [if_pos ⟨rfl, e, rfl⟩, if_pos e]
    · rw [if_neg (fun z => e z.2.1), if_neg e, x_vr_putr, if_neg (by omega)]
      rfl
  · show x_ce H + 1 + 1 = _
    omega
  · show x_so H + 2 + 24 = _
    omega
  · refine ⟨fun j i hj => ?_, fun j hj => ?_, fun j i => ?_, fun j => rfl, Nat.le_refl _⟩
    · exact (x_vr_putr.trans (if_neg (by omega))).trans ((x_vr_putr.trans (if_neg (by omega))).trans rfl)
    · exact (x_vr_putr.trans (if_neg (fun z => hj z.2.2))).trans ((x_vr_putr.trans (if_neg (by omega))).trans rfl)
    · exact (x_vr_putr.trans (if_neg (by omega))).trans ((x_vr_putr.trans (if_neg (by omega))).trans rfl)
end XNX
theorem tx13 {h : xH} {Z : xO → xH → Prop} {x0 : Nat} {x1 : Int32} {E : Nat → Nat → Prop} {A : Nat → Nat → Nat → Prop} (Q : QI h E A) (hc : x_ce h = 0) (hs : x_so h = 0) (g0 : x_live h 3 x0) (g1 : 0 ≤ x1.toInt ∧ x1.toInt ≤ 2)
    (hZ : ∀ g : xH, QI g (fun K j => E K j ∧ ¬ (K = 3 ∧ j = x0)) A → (∀ K, x_cn g K = x_cn h K + of_c K 24 4) → x_mq g = x_mq h → FL h g x0 24 → x_vr g 3 1 x0 = x_cn h 16 + 1 → Z (.inl none) g) : xC 1000 13 [.inr (.inr (3, x0)), .inl x1] h Z := by
  refine ⟨rfl, hc, hs, ?_⟩
  show xR _ 13 0 ([.inr (.inr (3, x0)), .inl x1, .inr (.inr (0, 0))], [], h) Z
  refine xR.blk c13_0 ?_
  refine q_aload rfl (by decide) (q_objinit (by decide) g0.1 (Nat.le_of_ble_eq_true rfl) ?_)
  refine wx_arr (L := 24) rfl Q rfl (by decide) (by decide) (fun L' hm => by simp only [x_lnl, List.mem_cons, Prod.mk.injEq, List.not_mem_nil, or_false] at hm; omega) rfl (by decide) rfl g0 hc hs (by decide) (by decide) (fun H1 Q1 c1 v1 ce1 so1 mq1 fm1 => ?_)
  have l1 : x_live H1 3 x0 := ⟨g0.1, by rw [c1, if_neg (by decide)]; exact g0.2⟩
  refine wx_arr (L := 33) rfl Q1 rfl (by decide) (by decide) (fun L' hm => by simp only [x_lnl, List.mem_cons, Prod.mk.injEq, List.not_mem_nil, or_false] at hm; omega) rfl (by decide) rfl l1 ce1 so1 (by decide) (by decide) (fun H2 Q2 c2 v2 ce2 so2 mq2 fm2 => ?_)
  have l2 : x_live H2 3 x0 := ⟨g0.1, by rw [c2, if_neg (by decide)]; exact l1.2⟩
  refine wx_arr (L := 12) rfl Q2 rfl (by decide) (by decide) (fun L' hm => by simp only [x_lnl, List.mem_cons, Prod.mk.injEq, List.not_mem_nil, or_false] at hm; omega) rfl (by decide) rfl l2 ce2 so2 (by decide) (by decide) (fun H3 Q3 c3 v3 ce3 so3 mq3 fm3 => ?_)
  have l3 : x_live H3 3 x0 := ⟨g0.1, by rw [c3, if_neg (by decide)]; exact l2.2⟩
  refine wx_arr (L := 4) rfl Q3 rfl (by decide) (by decide) (fun L' hm => by simp only [x_lnl, List.mem_cons, Prod.mk.injEq, List.not_mem_nil, or_false] at hm; omega) rfl (by decide) rfl l3 ce3 so3 (by decide) (by decide) (fun H4 Q4 c4 v4 ce4 so4 mq4 fm4 => ?_)
  have l4 : x_live H4 3 x0 := ⟨g0.1, by rw [c4, if_neg (by decide)]; exact l3.2⟩
  refine wx_row Q4 rfl (by decide) rfl l4 ce4 so4 (by decide) (by decide) (by omega) (fun H5 Q5 c5 v5 ce5 so5 mq5 fm5 => ?_)
  have l5 : x_live H5 3 x0 := ⟨g0.1, by rw [c5, if_neg (by decide)]; exact l4.2⟩
  refine wx_row Q5 rfl (by decide) rfl l5 ce5 so5 (by decide) (by decide) (by omega) (fun H6 Q6 c6 v6 ce6 so6 mq6 fm6 => ?_)
  have l6 : x_live H6 3 x0 := ⟨g0.1, by rw [c6, if_neg (by decide)]; exact l5.2⟩
  refine q_aload rfl (by decide) (q_iload rfl (q_pfi l6 ?_))
  have Q7 := Q6.puti (K := 3) (k := 0) (j := x0) (v := x1) (fun lo hi hm => by simp only [x_rgl, List.mem_cons, Prod.mk.injEq, List.not_mem_nil, or_false] at hm; omega) (by omega) (by omega) (by omega)
  have l7 : x_live (x_puti H6 3 0 x0 x1) 3 x0 := l6
  have ce7 : x_ce (x_puti H6 3 0 x0 x1) = 8 := ce6
  have so7 : x_so (x_puti H6 3 0 x0 x1) = 125 := so6
  have c7 : ∀ K, x_cn (x_puti H6 3 0 x0 x1) K = x_cn h K + of_c K 0 0 := by
    intro K
    show x_cn H6 K = _
    rw [c6, c5, c4, c3, c2, c1]
    unfold of_c
    by_cases e2 : K = 2
    · subst e2; simp
    · by_cases e5 : K = 5 ∨ K = 20
      · rcases e5 with rfl | rfl <;> simp
      · by_cases e6 : 16 ≤ K ∧ K ≤ 19
        · rcases (show K = 16 ∨ K = 17 ∨ K = 18 ∨ K = 19 by omega) with rfl | rfl | rfl | rfl <;> simp
        · have n1 : K ≠ 16 := by omega
          have n2 : K ≠ 17 := by omega
          have n3 : K ≠ 18 := by omega
          have n4 : K ≠ 19 := by omega
          simp [e2, e5, e6, n1, n2, n3, n4]
  have f1 : x_vr (x_puti H6 3 0 x0 x1) 3 1 x0 = x_cn h 16 + 1 := by
    show x_vr H6 3 1 x0 = _
    rw [v6, if_neg (by decide), v5, if_neg (by decide), v4, if_neg (by decide), v3, if_neg (by decide), v2, if_neg (by decide), v1, if_pos rfl]
  have f2 : x_vr (x_puti H6 3 0 x0 x1) 3 2 x0 = x_cn h 17 + 1 := by
    show x_vr H6 3 2 x0 = _
    rw [v6, if_neg (by decide), v5, if_neg (by decide), v4, if_neg (by decide), v3, if_neg (by decide), v2, if_pos rfl, c1, if_neg (by decide), Nat.add_zero]
  have f3 : x_vr (x_puti H6 3 0 x0 x1) 3 3 x0 = x_cn h 18 + 1 := by
    show x_vr H6 3 3 x0 = _
    rw [v6, if_neg (by decide), v5, if_neg (by decide), v4, if_neg (by decide), v3, if_pos rfl]; simp [c2, c1]
  have f4 : x_vr (x_puti H6 3 0 x0 x1) 3 4 x0 = x_cn h 19 + 1 := by
    show x_vr H6 3 4 x0 = _
    rw [v6, if_neg (by decide), v5, if_neg (by decide), v4, if_pos rfl]; simp [c3, c2, c1]
  have f5 : x_vr (x_puti H6 3 0 x0 x1) 3 5 x0 = x_cn h 5 + 1 := by
    show x_vr H6 3 5 x0 = _
    rw [v6, if_neg (by decide), v5, if_pos rfl]; simp [c4, c3, c2, c1]
  have f6 : x_vr (x_puti H6 3 0 x0 x1) 3 6 x0 = x_cn h 5 + 2 := by
    show x_vr H6 3 6 x0 = _
    rw [v6, if_pos rfl]; simp [c5, c4, c3, c2, c1]
  have e16 : x_cn H1 17 = x_cn h 17 := by simp [c1]
  have e17 : x_cn H2 18 = x_cn h 18 := by simp [c2, c1]
  have e18 : x_cn H3 19 = x_cn h 19 := by simp [c3, c2, c1]
  rw [e16, e17, e18] at Q7
  have mq7 : x_mq (x_puti H6 3 0 x0 x1) = x_mq h := by rw [x_mq_puti rfl, mq6, mq5, mq4, mq3, mq2, mq1]
  have fl7 : FL h (x_puti H6 3 0 x0 x1) x0 0 := by
    obtain ⟨a1, a2, a3, a4, -⟩ := fm1.tr (fm2.tr (fm3.tr (fm4.tr (fm5.tr fm6))))
    refine ⟨fun m hm => absurd hm (by omega), a1, a2, a3, fun j => ?_⟩
    have e2 : x_cn (x_puti H6 3 0 x0 x1) 2 = x_cn h 2 := by rw [c7]; rfl
    rw [e2, if_neg (by omega), x_vi_puti, if_neg (by omega)]
    exact a4 j
  generalize x_puti H6 3 0 x0 x1 = H at Q7 l7 ce7 so7 c7 f1 f2 f3 f4 f5 f6 mq7 fl7 ⊢
  have Q8 : QI H (fun K j => E K j ∧ ¬ (K = 3 ∧ j = x0)) (fun K j i => A K j i ∨ (K = 16 ∧ j = x_cn h 16 + 1 ∧ 0 ≤ i) ∨ (K = 19 ∧ j = x_cn h 19 + 1 ∧ 0 ≤ i)) := by
    refine Q7.done (fun K j z => ?_) (fun K j i z => ?_)
    · by_cases q : K = 3 ∧ j = x0
      · obtain ⟨rfl, rfl⟩ := q
        refine Or.inr (fun k hm => ?_)
        have hk : k = 1 ∨ k = 2 ∨ k = 3 ∨ k = 4 ∨ k = 5 ∨ k = 6 := by simp only [x_nnl, List.mem_cons, Prod.mk.injEq, List.not_mem_nil, or_false] at hm; omega
        rcases hk with rfl | rfl | rfl | rfl | rfl | rfl
        · rw [f1]; exact ⟨by omega, by show _ ≤ x_cn H 16; rw [c7]; exact Nat.le_refl _⟩
        · rw [f2]; exact ⟨by omega, by show _ ≤ x_cn H 17; rw [c7]; exact Nat.le_refl _⟩
        · rw [f3]; exact ⟨by omega, by show _ ≤ x_cn H 18; rw [c7]; exact Nat.le_refl _⟩
        · rw [f4]; exact ⟨by omega, by show _ ≤ x_cn H 19; rw [c7]; exact Nat.le_refl _⟩
        · rw [f5]; exact ⟨by omega, by show _ ≤ x_cn H 5; rw [c7]; exact Nat.le_succ _⟩
        · rw [f6]; exact ⟨by omega, by show _ ≤ x_cn H 5; rw [c7]; exact Nat.le_refl _⟩
      · exact Or.inl ⟨z, q⟩
    · rcases z with (((z | ⟨z1, z2⟩) | ⟨z1, z2⟩) | ⟨z1, z2⟩) | ⟨z1, z2⟩
      · exact Or.inl (Or.inl z)
      · exact Or.inl (Or.inr (Or.inl ⟨z1, z2, Nat.zero_le _⟩))
      · exact Or.inr (fun L => Or.inl (fun hm => by simp only [x_ael, List.mem_cons, Prod.mk.injEq, List.not_mem_nil, or_false] at hm; omega))
      · exact Or.inr (fun L => Or.inl (fun hm => by simp only [x_ael, List.mem_cons, Prod.mk.injEq, List.not_mem_nil, or_false] at hm; omega))
      · exact Or.inl (Or.inr (Or.inr ⟨z1, z2, Nat.zero_le _⟩))
  have lp2 : ∀ (m : Nat) (n : Int32) (H : xH), QI H (fun K j => E K j ∧ ¬ (K = 3 ∧ j = x0)) (fun K j i => A K j i ∨ (K = 19 ∧ j = x_cn h 19 + 1 ∧ n.toNatClampNeg ≤ i)) → (0 ≤ n.toInt ∧ n.toInt ≤ 4) → x_vr H 3 4 x0 = x_cn h 19 + 1 → (∀ K, x_cn H K = x_cn h K + of_c K 24 n.toNatClampNeg) → x_ce H = 32 + 2 * n.toNatClampNeg → x_so H = 269 + 26 * n.toNatClampNeg → x_mq H = x_mq h → FL h H x0 24 → x_vr H 3 1 x0 = x_cn h 16 + 1 → (4 - n.toInt).toNat < m → xR (50 + 5 * m) 13 100 ([.inr (.inr (3, x0)), .inl x1, .inl n], [], H) Z := by
    intro m
    induction m with
    | zero => intro n H _ _ _ _ _ _ _ _ _ hm; exact absurd hm (by omega)
    | succ m ih =>
      intro n H Q hn f4 hcn hce hso hmq hfl f1 hm
      have cn := x_clamp hn.1
      rw [show 50 + 5 * (m + 1) = 50 + 5 * m + 5 by omega]
      have l3 : x_live H 3 x0 := ⟨g0.1, by rw [hcn]; exact Nat.le_trans g0.2 (Nat.le_add_right _ _)⟩
      have l19 : x_live H 19 (x_cn h 19 + 1) := ⟨by omega, by rw [hcn]; exact Nat.le_refl _⟩
      have ln19 : x_ln H 19 (x_cn h 19 + 1) = 4 := Q.2.2.2.1 19 4 _ (by decide) l19
      refine xR.blk c13_100 ?_
      refine q_iload rfl (v_iconst (k := 4) rfl (fun v1 e1 => v_icmp_ge (fun d => ?_) (fun d => ?_)))
      · refine xR.up (xR.blk (n := 5) c13_126 (q_ret (hZ _ (Q.done (fun K j z => Or.inl z) (fun K j i z => ?_)) (fun K => ?_) hmq hfl f1))) (by omega)
        · rcases z with z | ⟨rfl, z2, z3⟩
          · exact Or.inl z
          · refine Or.inr (fun L => ?_)
            by_cases q : (19, L) ∈ x_ael
            · refine Or.inr ?_
              simp only [x_ael, List.mem_cons, Prod.mk.injEq, List.not_mem_nil, or_false] at q
              omega
            · exact Or.inl q
        · rw [hcn, show n.toNatClampNeg = 4 by omega]
      · refine q_aload rfl (by decide) (q_gfr l3 ?_)
        rw [f4]
        have l5 : x_live (x_new H 5 2) 5 (x_cn H 5 + 1) := x_new_lv.mpr (Or.inr ⟨rfl, rfl⟩)
        refine q_iload rfl (q_newo (by omega) (by omega) (q_dup rfl (q_iconst (q_calli rfl (by decide) l5.1 (by decide) (Nat.le_of_ble_eq_true rfl) (Nat.le_of_ble_eq_true rfl) (by show x_ce H + 1 + 1 ≤ 40; omega) (by show x_so H + 2 + 24 ≤ 373; omega) ?_))))
        refine xC.up (tv0 (h := x_setc (x_new H 5 2) 0 0) (x0 := x_cn H 5 + 1) (x1 := 6) rfl rfl l5 (by decide) ?_) (by omega)
        have Q1 := Q.row (n := 6) (by omega)
        have lu : ∀ {K j : Nat}, x_live (x_new H 5 2) K j → x_live (x_putr (x_newa (x_new H 5 2) 20 6) 5 0 (x_cn H 5 + 1) (x_cn H 20 + 1)) K j := fun {K j} q => (show x_live (x_newa (x_new H 5 2) 20 6) K j from x_newa_lv.mpr (Or.inl q))
        refine q_aast (lu (x_new_up l19)) ⟨hn.1, by show n.toInt < (x_ln (x_newa (x_new H 5 2) 20 6) 19 (x_cn h 19 + 1) : Int); rw [show x_ln (x_newa (x_new H 5 2) 20 6) 19 (x_cn h 19 + 1) = x_ln H 19 (x_cn h 19 + 1) from rfl, ln19]; omega⟩ ?_
        refine v_iinc (k := 1) rfl rfl (by omega) (by omega) (fun n2 e2 => q_goto ?_)
        have cn2 := x_clamp (n := n2) (by omega)
        refine xR.up (ih n2 _ ?_ (by omega) ?_ ?_ ?_ ?_ ?_ ?_ ?_ (by omega)) (by omega)
        · refine QI.puta (K := 19) (j := x_cn h 19 + 1) (i := n.toNatClampNeg) (v := x_cn H 5 + 1) Q1 (by omega) (lu l5) ?_
          intro K' j' i' z
          rcases z with z | ⟨z1, z2, z3⟩
          · exact Or.inl (Or.inl z)
          · by_cases q : i' = n.toNatClampNeg
            · exact Or.inr ⟨z1, z2, q⟩
            · exact Or.inl (Or.inr ⟨z1, z2, by omega⟩)
        · show x_vr (x_putr (x_putr (x_newa (x_new H 5 2) 20 6) 5 0 (x_cn H 5 + 1) (x_cn H 20 + 1)) 19 (x_cn h 19 + 1) n.toNatClampNeg (x_cn H 5 + 1)) 3 4 x0 = _
          rw [x_vr_putr, if_neg (by omega), x_vr_putr, if_neg (by omega)]
          exact f4
        · intro K
          show x_cn (x_newa (x_new H 5 2) 20 6) K = _
          simp only [x_newa_cn, x_new_cn]
          unfold of_c at hcn ⊢
          by_cases e : K = 20
          · subst e
            have := hcn 20
            simp at this ⊢
            omega
          · by_cases e2 : K = 5
            · subst e2
              have := hcn 5
              simp at this ⊢
              omega
            · have := hcn K
              simp [e, e2] at this ⊢
              exact this
        · show x_ce H + 1 + 1 = _
          omega
        · show x_so H + 2 + 24 = _
          omega
        · refine Eq.trans ?_ hmq
          exact (x_mq_putr (h := x_putr (x_newa (x_new H 5 2) 20 6) 5 0 (x_cn H 5 + 1) (x_cn H 20 + 1)) rfl).trans ((x_mq_putr rfl).trans ((x_mq_newa rfl).trans (x_mq_new rfl)))
        · obtain ⟨q1, q2, q3, q4, q5⟩ := hfl
          exact ⟨fun m hm => (x_vr_putr.trans (if_neg (by omega))).trans ((x_vr_putr.trans (if_neg (by omega))).trans (q1 m hm)), fun j i hj => (x_vr_putr.trans (if_neg (by omega))).trans ((x_vr_putr.trans (if_neg (by omega))).trans (q2 j i hj)), fun j hj => (x_vr_putr.trans (if_neg (by omega))).trans ((x_vr_putr.trans (if_neg (by omega))).trans (q3 j hj)), fun j i => (x_vr_putr.trans (if_neg (by omega))).trans ((x_vr_putr.trans (if_neg (by omega))).trans (q4 j i)), q5⟩
        · exact (x_vr_putr.trans (if_neg (by omega))).trans ((x_vr_putr.trans (if_neg (by omega))).trans f1)
  have lp1 : ∀ (m : Nat) (n : Int32) (H : xH), QI H (fun K j => E K j ∧ ¬ (K = 3 ∧ j = x0)) (fun K j i => A K j i ∨ (K = 16 ∧ j = x_cn h 16 + 1 ∧ n.toNatClampNeg ≤ i) ∨ (K = 19 ∧ j = x_cn h 19 + 1 ∧ 0 ≤ i)) → (0 ≤ n.toInt ∧ n.toInt ≤ 24) → x_vr H 3 1 x0 = x_cn h 16 + 1 → x_vr H 3 4 x0 = x_cn h 19 + 1 → (∀ K, x_cn H K = x_cn h K + of_c K n.toNatClampNeg 0) → x_ce H = 8 + n.toNatClampNeg → x_so H = 125 + 6 * n.toNatClampNeg → x_mq H = x_mq h → FL h H x0 n.toNatClampNeg → (24 - n.toInt).toNat < m → xR (100 + 5 * m) 13 71 ([.inr (.inr (3, x0)), .inl x1, .inl n], [], H) Z := by
    intro m
    induction m with
    | zero => intro n H _ _ _ _ _ _ _ _ _ hm; exact absurd hm (by omega)
    | succ m ih =>
      intro n H Q hn f1 f4 hcn hce hso hmq hfl hm
      have cn := x_clamp hn.1
      rw [show 100 + 5 * (m + 1) = 100 + 5 * m + 5 by omega]
      have l3 : x_live H 3 x0 := ⟨g0.1, by rw [hcn]; exact Nat.le_trans g0.2 (Nat.le_add_right _ _)⟩
      have l16 : x_live H 16 (x_cn h 16 + 1) := ⟨by omega, by rw [hcn]; exact Nat.le_refl _⟩
      have ln16 : x_ln H 16 (x_cn h 16 + 1) = 24 := Q.2.2.2.1 16 24 _ (by decide) l16
      refine xR.blk c13_71 ?_
      refine q_iload rfl (v_iconst (k := 24) rfl (fun v1 e1 => v_icmp_ge (fun d => ?_) (fun d => ?_)))
      · refine xR.up (xR.blk (n := 90) c13_98 (v_iconst (k := 0) rfl (fun z0 ez0 => q_istore (Nat.le_of_ble_eq_true rfl) (q_goto ?_)))) (by omega)
        have cz := x_clamp (n := z0) (by omega)
        refine (lp2 5 z0 H (Q.done (fun K j z => Or.inl z) (fun K j i z => ?_)) (by omega) f4 (fun K => ?_) (by omega) (by omega) hmq (by rw [show n.toNatClampNeg = 24 by omega] at hfl; exact hfl) f1 (by omega)).up (by omega)
        · rcases z with z | ⟨rfl, z2, z3⟩ | ⟨z1, z2, z3⟩
          · exact Or.inl (Or.inl z)
          · refine Or.inr (fun L => ?_)
            by_cases q : (16, L) ∈ x_ael
            · refine Or.inr ?_
              simp only [x_ael, List.mem_cons, Prod.mk.injEq, List.not_mem_nil, or_false] at q
              omega
            · exact Or.inl q
          · exact Or.inl (Or.inr ⟨z1, z2, by omega⟩)
        · rw [hcn, show n.toNatClampNeg = 24 by omega, show z0.toNatClampNeg = 0 by omega]
      · refine q_aload rfl (by decide) (q_gfr l3 ?_)
        rw [f1]
        have l2 : x_live (x_new H 2 6) 2 (x_cn H 2 + 1) := x_new_lv.mpr (Or.inr ⟨rfl, rfl⟩)
        refine q_iload rfl (q_newo (by omega) (by omega) (q_dup rfl (q_iload rfl (q_iload rfl (q_calli rfl (by decide) l2.1 (by decide) (Nat.le_of_ble_eq_true rfl) (Nat.le_of_ble_eq_true rfl) (by show x_ce H + 1 + 0 ≤ 40; omega) (by show x_so H + 6 + 0 ≤ 373; omega) ?_)))))
        refine xC.up (tv8 (h := x_setc (x_new H 2 6) 0 0) (x0 := x_cn H 2 + 1) (x1 := x1) (x2 := n) rfl rfl l2 ?_) (by omega)
        have Q1 := Q.line (o := x1) (n := n) g1 (by omega)
        refine q_aast (show x_live (x_new H 2 6) 16 _ from x_new_up l16) ⟨hn.1, by show n.toInt < (x_ln H 16 (x_cn h 16 + 1) : Int); rw [ln16]; omega⟩ ?_
        refine v_iinc (k := 1) rfl rfl (by omega) (by omega) (fun n2 e2 => q_goto ?_)
        have cn2 := x_clamp (n := n2) (by omega)
        refine xR.up (ih n2 _ ?_ (by omega) ?_ ?_ ?_ ?_ ?_ ?_ ?_ (by omega)) (by omega)
        · refine QI.puta (K := 16) (j := x_cn h 16 + 1) (i := n.toNatClampNeg) (v := x_cn H 2 + 1) Q1 (by omega) l2 ?_
          intro K' j' i' z
          rcases z with z | ⟨z1, z2, z3⟩ | z
          · exact Or.inl (Or.inl z)
          · by_cases q : i' = n.toNatClampNeg
            · exact Or.inr ⟨z1, z2, q⟩
            · exact Or.inl (Or.inr (Or.inl ⟨z1, z2, by omega⟩))
          · exact Or.inl (Or.inr (Or.inr z))
        · exact f1
        · exact f4
        · intro K
          show x_cn (x_new H 2 6) K = _
          rw [x_new_cn]
          have := hcn K
          unfold of_c at this ⊢
          by_cases e : K = 2
          · subst e
            simp at this ⊢
            omega
          · rw [if_neg e] at this ⊢
            rw [if_neg e]
            exact this
        · show x_ce H + 1 + 0 = _
          omega
        · show x_so H + 6 + 0 = _
          omega
        · refine Eq.trans ?_ hmq
          exact (x_mq_putr (h := x_puti (x_puti (x_puti (x_new H 2 6) 2 3 (x_cn H 2 + 1) 0) 2 0 (x_cn H 2 + 1) x1) 2 1 (x_cn H 2 + 1) n) rfl).trans ((x_mq_puti rfl).trans ((x_mq_puti rfl).trans ((x_mq_puti rfl).trans (x_mq_new rfl))))
        · obtain ⟨q1, q2, q3, q4, q5⟩ := hfl
          have k2 : x_cn H 2 = x_cn h 2 + n.toNatClampNeg := by rw [hcn]; rfl
          refine ⟨fun m hm => ?_, fun j i hj => (x_vr_putr.trans (if_neg (by omega))).trans (q2 j i hj), fun j hj => (x_vr_putr.trans (if_neg (by omega))).trans (q3 j hj), fun j i => (x_vr_putr.trans (if_neg (by omega))).trans (q4 j i), fun j => ?_⟩
          · refine x_vr_putr.trans ?_
            by_cases e9 : m = n.toNatClampNeg
            · rw [if_pos ⟨rfl, rfl, e9⟩]; omega
            · rw [if_neg (fun z => e9 z.2.2)]
              exact q1 m (by omega)
          · have kH : x_cn (x_putr (x_puti (x_puti (x_puti (x_new H 2 6) 2 3 (x_cn H 2 + 1) 0) 2 0 (x_cn H 2 + 1) x1) 2 1 (x_cn H 2 + 1) n) 16 (x_cn h 16 + 1) n.toNatClampNeg (x_cn H 2 + 1)) 2 = x_cn H 2 + 1 := by
              show x_cn (x_new H 2 6) 2 = _
              rw [x_new_cn, if_pos rfl]
            refine Eq.trans (b := x_vi (x_new H 2 6) 2 2 j) ?_ ?_
            · show x_vi (x_puti (x_puti (x_puti (x_new H 2 6) 2 3 (x_cn H 2 + 1) 0) 2 0 (x_cn H 2 + 1) x1) 2 1 (x_cn H 2 + 1) n) 2 2 j = _
              rw [x_vi_puti, if_neg (by omega), x_vi_puti, if_neg (by omega), x_vi_puti, if_neg (by omega)]
            · show (if 2 = 2 ∧ j = x_cn H 2 + 1 then 0 else x_vi H 2 2 j) = if x_cn h 2 < j ∧ j ≤ x_cn (x_putr (x_puti (x_puti (x_puti (x_new H 2 6) 2 3 (x_cn H 2 + 1) 0) 2 0 (x_cn H 2 + 1) x1) 2 1 (x_cn H 2 + 1) n) 16 (x_cn h 16 + 1) n.toNatClampNeg (x_cn H 2 + 1)) 2 then 0 else x_vi h 2 2 j
              rw [kH, q5 j]
              by_cases e9 : j = x_cn H 2 + 1
              · rw [if_pos ⟨rfl, e9⟩, if_pos (by omega)]
              · rw [if_neg (fun z => e9 z.2)]
                by_cases e8 : x_cn h 2 < j ∧ j ≤ x_cn H 2
                · rw [if_pos e8, if_pos (by omega)]
                · rw [if_neg e8, if_neg (by omega)]
  refine v_iconst (k := 0) rfl (fun z0 ez0 => q_istore (Nat.le_of_ble_eq_true rfl) (q_goto ?_))
  have cz := x_clamp (n := z0) (by omega)
  have z00 : z0.toNatClampNeg = 0 := by omega
  refine (lp1 25 z0 H (by rw [z00]; exact Q8) (by omega) f1 f4 (by rw [z00]; exact c7) (by omega) (by omega) mq7 (by rw [z00]; exact fl7) (by omega)).up (by omega)
