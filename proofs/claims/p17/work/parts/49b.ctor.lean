/-! AN OFFICE -/
section XN
variable {n1 n2 n3 n4 n5 n6 n : Nat} {r : List (Nat × xI)} {Z : xO → xH → Prop} {J : Nat → xS → Prop} {ls : List xV} {H : xH} {E : Nat → Nat → Prop} {A : Nat → Nat → Nat → Prop} {x0 a b : Nat}
theorem w_arr {K L k : Nat} {v : Int32} (hxm : xm_k K = false) (Q : QI H E A) (hl : ls[0]? = some (.inr (.inr (3, x0)))) (hK : 11 ≤ K ∧ K ≠ 20) (hL : ∀ L', (K, L') ∈ x_lnl → L = L') (hv : v.toInt = L) (hL2 : L ≤ 100) (hft : x_ft 3 k = K) (g0 : x_live H 3 x0) (hce : x_ce H = a) (hso : x_so H = b) (ha : a + 1 ≤ 40) (hb : b + L ≤ 373)
    (kk : ∀ H', QI H' E (fun K' j i => A K' j i ∨ (K' = K ∧ j = x_cn H K + 1)) → (∀ K', x_cn H' K' = x_cn H K' + if K' = K then 1 else 0) → (∀ k', x_vr H' 3 k' x0 = if k' = k then x_cn H K + 1 else x_vr H 3 k' x0) → x_ce H' = a + 1 → x_so H' = b + L → x_mq H' = x_mq H → x_seq r (xC n) Z J (ls, [], H')) :
    x_seq ((n1, x_aload 0) :: (n2, x_iconst v) :: (n3, x_newr K 40 373) :: (n4, x_pfr 3 k K) :: r) (xC n) Z J (ls, [], H) := by
  have hcl : v.toNatClampNeg = L := by have := x_clamp (n := v) (by omega); omega
  refine q_aload hl (by decide) (q_iconst (q_newr (by omega) (by omega) (by omega) (by omega) ?_))
  rw [hcl]
  have l3 : x_live (x_newa H K L) 3 x0 := x_newa_lv.mpr (Or.inl g0)
  have lK : x_live (x_newa H K L) K (x_cn H K + 1) := x_newa_lv.mpr (Or.inr ⟨rfl, rfl⟩)
  refine q_pfr l3 (kk _ ((Q.newa hK.1 hL (fun z => absurd z hK.2)).putr (by omega) (by rw [hft]; exact lK)) (fun K' => ?_) (fun k' => ?_) ?_ ?_ ((x_mq_putr rfl).trans (x_mq_newa hxm)))
  · show x_cn (x_newa H K L) K' = _
    rw [x_newa_cn]
    by_cases e : K' = K
    · rw [if_pos e, if_pos e, e]
    · rw [if_neg e, if_neg e]; omega
  · rw [x_vr_putr]
    by_cases e : k' = k
    · rw [if_pos ⟨rfl, e, rfl⟩, if_pos e]
    · rw [if_neg (fun z => e z.2.1), if_neg e]
      exact if_neg (fun z => by omega)
  · show x_ce H + 1 = _
    rw [hce]
  · show x_so H + L = _
    rw [hso]
theorem w_row {k : Nat} {v : Int32} (Q : QI H E A) (hl : ls[0]? = some (.inr (.inr (3, x0)))) (hv : 0 ≤ v.toInt ∧ v.toInt ≤ 24) (hft : x_ft 3 k = 5) (g0 : x_live H 3 x0) (hce : x_ce H = a) (hso : x_so H = b) (ha : a + 2 ≤ 40) (hb : b + 26 ≤ 373) (hn : 10 ≤ n)
    (kk : ∀ H', QI H' E A → (∀ K', x_cn H' K' = x_cn H K' + if K' = 5 ∨ K' = 20 then 1 else 0) → (∀ k', x_vr H' 3 k' x0 = if k' = k then x_cn H 5 + 1 else x_vr H 3 k' x0) → x_ce H' = a + 2 → x_so H' = b + 26 → x_mq H' = x_mq H → x_seq r (xC n) Z J (ls, [], H')) :
    x_seq ((n1, x_aload 0) :: (n2, x_newo 5 2 40 373) :: (n3, x_dup) :: (n4, x_iconst v) :: (n5, x_calli 0 2 1 24 40 373) :: (n6, x_pfr 3 k 5) :: r) (xC n) Z J (ls, [], H) := by
  have hcl : (v.toNatClampNeg : Int) = v.toInt := x_clamp hv.1
  have l5 : x_live (x_new H 5 2) 5 (x_cn H 5 + 1) := x_new_lv.mpr (Or.inr ⟨rfl, rfl⟩)
  refine q_aload hl (by decide) (q_newo (by omega) (by omega) (q_dup rfl (q_iconst (q_calli rfl (by decide) l5.1 (by decide) (Nat.le_of_ble_eq_true rfl) (Nat.le_of_ble_eq_true rfl) (by show x_ce H + 1 + 1 ≤ 40; omega) (by show x_so H + 2 + 24 ≤ 373; omega) ?_))))
  refine xC.up (tv0 (h := x_setc (x_new H 5 2) 0 0) (x0 := x_cn H 5 + 1) (x1 := v) rfl rfl l5 hv ?_) hn
  have Q1 := Q.row (n := v.toNatClampNeg) (by omega)
  have l3 : x_live (x_putr (x_newa (x_new H 5 2) 20 v.toNatClampNeg) 5 0 (x_cn H 5 + 1) (x_cn H 20 + 1)) 3 x0 := (show x_live (x_newa (x_new H 5 2) 20 v.toNatClampNeg) 3 x0 from x_newa_lv.mpr (Or.inl (x_new_up g0)))
  have l5' : x_live (x_putr (x_newa (x_new H 5 2) 20 v.toNatClampNeg) 5 0 (x_cn H 5 + 1) (x_cn H 20 + 1)) 5 (x_cn H 5 + 1) := (show x_live (x_newa (x_new H 5 2) 20 v.toNatClampNeg) 5 (x_cn H 5 + 1) from x_newa_lv.mpr (Or.inl l5))
  refine q_pfr l3 (kk _ (Q1.putr (K := 3) (k := k) (j := x0) (by omega) (by rw [hft]; exact l5')) (fun K' => ?_) (fun k' => ?_) ?_ ?_ (((x_mq_putr (h := x_putr (x_newa (x_new H 5 2) 20 v.toNatClampNeg) 5 0 (x_cn H 5 + 1) (x_cn H 20 + 1)) rfl).trans ((x_mq_putr rfl).trans ((x_mq_newa rfl).trans (x_mq_new rfl))))))
  · show x_cn (x_newa (x_new H 5 2) 20 v.toNatClampNeg) K' = _
    simp only [x_newa_cn, x_new_cn]
    by_cases e : K' = 20
    · subst e; simp
    · by_cases e2 : K' = 5
      · subst e2; simp
      · simp [e, e2]
  · show x_vr (x_putr (x_putr (x_newa (x_new H 5 2) 20 v.toNatClampNeg) 5 0 (x_cn H 5 + 1) (x_cn H 20 + 1)) 3 k x0 (x_cn H 5 + 1)) 3 k' x0 = _
    rw [x_vr_putr]
    by_cases e : k' = k
    · rw [if_pos ⟨rfl, e, rfl⟩, if_pos e]
    · rw [if_neg (fun z => e z.2.1), if_neg e, x_vr_putr, if_neg (by omega)]
      rfl
  · show x_ce H + 1 + 1 = _
    omega
  · show x_so H + 2 + 24 = _
    omega
end XN
/-- what an office has -/
def of_c (K n m : Nat) : Nat := if K = 2 then n else if K = 5 ∨ K = 20 then 2 + m else if 16 ≤ K ∧ K ≤ 19 then 1 else 0
