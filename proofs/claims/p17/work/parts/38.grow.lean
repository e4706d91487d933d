/-! THE CLASS'S INVARIANT WITH NEW TRUNKS AND ROUTES -/
/-- of these kinds there may be new ones -/
def x_fk (K : Nat) : Prop := K = 4 ∨ K = 5 ∨ K = 6 ∨ K = 20
theorem CI.grow {h g : xH} (hC : CI h) (e1 : ∀ K, ¬ x_fk K → x_cn g K = x_cn h K) (e2 : ∀ K, x_cn h K ≤ x_cn g K)
    (e3 : ∀ K k j, K ≤ 9 → x_live h K j → x_vi g K k j = x_vi h K k j ∧ x_vr g K k j = x_vr h K k j) (e4 : ∀ K j i, 11 ≤ K → x_live h K j → x_vr g K j i = x_vr h K j i) (e5 : ∀ K j, x_live h K j → x_ln g K j = x_ln h K j)
    (n1 : ∀ K k j, (K, k) ∈ x_nnl → x_fk K → x_live g K j → ¬ x_live h K j → x_live g (x_ft K k) (x_vr g K k j)) (n2 : ∀ K k j, (K, k) ∈ x_nul → x_fk K → x_live g K j → ¬ x_live h K j → x_vr g K k j ≤ x_cn g (x_ft K k))
    (n3 : ∀ K k lo hi j, (K, k, lo, hi) ∈ x_rgl → x_fk K → x_live g K j → ¬ x_live h K j → lo ≤ (x_vi g K k j).toInt ∧ (x_vi g K k j).toInt ≤ hi)
    (n10 : ∀ j, x_live g 5 j → ¬ x_live h 5 j → 0 ≤ (x_vi g 5 1 j).toInt ∧ (x_vi g 5 1 j).toInt ≤ x_ln g 20 (x_vr g 5 0 j) ∧ x_ln g 20 (x_vr g 5 0 j) ≤ 24) : CI g := by
  obtain ⟨a1, a2, a3, a4, a5, a6, a7, a8, a9, a10⟩ := hC
  have up : ∀ K j, x_live h K j → x_live g K j := fun K j q => ⟨q.1, Nat.le_trans q.2 (e2 K)⟩
  have dn : ∀ K j, ¬ x_fk K → x_live g K j → x_live h K j := fun K j hn q => ⟨q.1, by rw [← e1 K hn]; exact q.2⟩
  refine ⟨fun K k j hm hj => ?_, fun K k j hm hj => ?_, fun K k lo hi j hm hj => ?_, fun K L j hm hj => ?_, fun K L j i hm hj hi => ?_, fun K j i hm hj => ?_, fun K n hm => ?_, fun j i hj hi => ?_, fun j i hj hi => ?_, fun j hj => ?_⟩
  · have hK : K ≤ 9 := by simp only [x_nnl, List.mem_cons, Prod.mk.injEq, List.not_mem_nil, or_false] at hm; omega
    by_cases q : x_live h K j
    · rw [(e3 K k j hK q).2]; exact up _ _ (a1 K k j hm q)
    · exact n1 K k j hm (Classical.byContradiction fun z => q (dn K j z hj)) hj q
  · have hK : K ≤ 9 := by simp only [x_nul, List.mem_cons, Prod.mk.injEq, List.not_mem_nil, or_false] at hm; omega
    by_cases q : x_live h K j
    · rw [(e3 K k j hK q).2]; exact Nat.le_trans (a2 K k j hm q) (e2 _)
    · exact n2 K k j hm (Classical.byContradiction fun z => q (dn K j z hj)) hj q
  · have hK : K ≤ 9 := by simp only [x_rgl, List.mem_cons, Prod.mk.injEq, List.not_mem_nil, or_false] at hm; omega
    by_cases q : x_live h K j
    · rw [(e3 K k j hK q).1]; exact a3 K k lo hi j hm q
    · exact n3 K k lo hi j hm (Classical.byContradiction fun z => q (dn K j z hj)) hj q
  · have hK : ¬ x_fk K := by simp only [x_lnl, List.mem_cons, Prod.mk.injEq, List.not_mem_nil, or_false] at hm; unfold x_fk; omega
    have q := dn K j hK hj
    rw [e5 K j q]; exact a4 K L j hm q
  · have hK : ¬ x_fk K ∧ 11 ≤ K := by simp only [x_ael, List.mem_cons, Prod.mk.injEq, List.not_mem_nil, or_false] at hm; unfold x_fk; omega
    have q := dn K j hK.1 hj
    rw [e4 K j i hK.2 q]; exact up _ _ (a5 K L j i hm q hi)
  · have hK : ¬ x_fk K ∧ 11 ≤ K := by unfold x_fk; omega
    have q := dn K j hK.1 hj
    rw [e4 K j i hK.2 q]; exact Nat.le_trans (a6 K j i hm q) (e2 _)
  · have hK : ¬ x_fk K := by simp only [x_cnl, List.mem_cons, Prod.mk.injEq, List.not_mem_nil, or_false] at hm; unfold x_fk; omega
    rw [e1 K hK]; exact a7 K n hm
  · have q := dn 7 j (by unfold x_fk; omega) hj
    rw [(e3 7 4 j (by omega) q).1] at hi
    rw [(e3 7 2 j (by omega) q).2, e4 13 _ i (by omega) (a1 7 2 j (by decide) q)]
    exact up _ _ (a8 j i q hi)
  · have q := dn 3 j (by unfold x_fk; omega) hj
    rw [(e3 3 7 j (by omega) q).1] at hi
    rw [(e3 3 3 j (by omega) q).2, e4 18 _ i (by omega) (a1 3 3 j (by decide) q)]
    exact up _ _ (a9 j i q hi)
  · by_cases q : x_live h 5 j
    · rw [(e3 5 1 j (by omega) q).1, (e3 5 0 j (by omega) q).2, e5 20 _ (a1 5 0 j (by decide) q)]
      exact a10 j q
    · exact n10 j hj q
/-- the reference's part, counts and all -/
def x_mq (h : xH) : Nat → Option ((Nat → Nat → Int32) × (Nat → Nat → Nat) × (Nat → Nat) × Nat) := fun K => if xm_k K = true then some (x_vi h K, x_vr h K, x_ln h K, x_cn h K) else none
theorem x_mq_of {h g : xH} (e : x_pj g = x_pj h) : x_mq g = x_mq h := by
  have e1 : x_cn g = x_cn h := congrArg (fun p : xP => p.1) e
  have e2 : x_mp g = x_mp h := congrArg (fun p : xP => p.2) e
  funext K
  have e3 := congrFun e2 K
  unfold x_mp at e3
  unfold x_mq
  by_cases q : xm_k K = true
  · rw [if_pos q, if_pos q] at e3
    rw [if_pos q, if_pos q, e1]
    have := Option.some.inj e3
    simp only [Prod.mk.injEq] at this ⊢
    exact congrArg some (by rw [this.1, this.2.1, this.2.2])
  · rw [if_neg q, if_neg q]
theorem x_mq_puti {h : xH} {K k i : Nat} {v : Int32} (hK : xm_k K = false) : x_mq (x_puti h K k i v) = x_mq h := x_mq_of (x_pj_puti hK)
theorem x_mq_putr {h : xH} {K k i v : Nat} (hK : xm_k K = false) : x_mq (x_putr h K k i v) = x_mq h := x_mq_of (x_pj_putr hK)
theorem x_mq_new {h : xH} {K N : Nat} (hK : xm_k K = false) : x_mq (x_new h K N) = x_mq h := by
  funext K'
  unfold x_mq
  by_cases q : xm_k K' = true
  · have hne : K' ≠ K := fun z => by rw [z, hK] at q; cases q
    rw [if_pos q, if_pos q]
    refine congrArg some ?_
    refine Prod.ext (funext fun a => funext fun b => ?_) (Prod.ext (funext fun a => funext fun b => ?_) (Prod.ext rfl ?_))
    · exact if_neg (fun z => hne z.1)
    · exact if_neg (fun z => hne z.1)
    · show (if K' = K then _ else x_cn h K') = _
      rw [if_neg hne]
  · rw [if_neg q, if_neg q]
theorem x_mq_newa {h : xH} {K n : Nat} (hK : xm_k K = false) : x_mq (x_newa h K n) = x_mq h := by
  funext K'
  unfold x_mq
  by_cases q : xm_k K' = true
  · have hne : K' ≠ K := fun z => by rw [z, hK] at q; cases q
    rw [if_pos q, if_pos q]
    refine congrArg some ?_
    refine Prod.ext (funext fun a => funext fun b => ?_) (Prod.ext (funext fun a => funext fun b => ?_) (Prod.ext (funext fun a => ?_) ?_))
    · exact if_neg (fun z => hne z.1)
    · exact if_neg (fun z => hne z.1)
    · show (if K' = K ∧ _ then _ else x_ln h K' a) = _
      rw [if_neg (fun z => hne z.1)]
    · show (if K' = K then _ else x_cn h K') = _
      rw [if_neg hne]
  · rw [if_neg q, if_neg q]
theorem x_new_lv {h : xH} {K N K' j : Nat} : x_live (x_new h K N) K' j ↔ x_live h K' j ∨ (K' = K ∧ j = x_cn h K + 1) := by
  unfold x_live
  rw [x_new_cn]
  by_cases e : K' = K
  · rw [if_pos e, e]
    constructor
    · intro q
      by_cases z : j = x_cn h K + 1
      · exact Or.inr ⟨rfl, z⟩
      · exact Or.inl ⟨q.1, by omega⟩
    · rintro (q | ⟨-, q⟩) <;> omega
  · rw [if_neg e]
    exact ⟨Or.inl, fun q => q.elim id (fun z => absurd z.1 e)⟩
theorem CI.new6 {h : xH} (hC : CI h) : CI (x_new h 6 4) := by
  refine hC.grow (fun K hK => ?_) (fun K => (x_le.new (h := h) (K := 6) (N := 4) (by decide)).1 K) (fun K k j _ hj => ⟨if_neg (x_live_ne hj), if_neg (x_live_ne hj)⟩) (fun K j i hK _ => if_neg (fun z => by omega)) (fun K j hj => rfl) ?_ ?_ ?_ ?_
  · rw [x_new_cn, if_neg]; rintro rfl; exact hK (by unfold x_fk; omega)
  · intro K k j hm _ hg hn
    have e := (x_new_lv.mp hg).resolve_left hn
    simp only [x_nnl, List.mem_cons, Prod.mk.injEq, List.not_mem_nil, or_false] at hm
    omega
  · intro K k j hm _ hg hn
    have e := (x_new_lv.mp hg).resolve_left hn
    show (if K = 6 ∧ j = x_cn h 6 + 1 then 0 else _) ≤ _
    rw [if_pos e]
    exact Nat.zero_le _
  · intro K k lo hi j hm _ hg hn
    have e := (x_new_lv.mp hg).resolve_left hn
    have e9 : x_vi (x_new h 6 4) K k j = 0 := if_pos e
    rw [e9]
    simp only [x_rgl, List.mem_cons, Prod.mk.injEq, List.not_mem_nil, or_false] at hm
    have e0 : (0 : Int32).toInt = 0 := rfl
    rw [e0]
    omega
  · intro j hg hn
    have e := (x_new_lv.mp hg).resolve_left hn
    omega
theorem CI.put13 {h : xH} {j i v : Nat} (hC : CI h) (hv : x_live h 6 v) : CI (x_putr h 13 j i v) := by
  obtain ⟨a1, a2, a3, a4, a5, a6, a7, a8, a9, a10⟩ := hC
  refine ⟨fun K' k' j' hn hj => ?_, fun K' k' j' hn hj => ?_, a3, a4, fun K' L j' i' hn hj hi => ?_, fun K' j' i' hn hj => ?_, a7, fun j' i' hj hi => ?_, fun j' i' hj hi => ?_, fun j' hj => ?_⟩
  · rw [x_vr_putr, if_neg]
    · exact a1 K' k' j' hn hj
    · rintro ⟨rfl, -⟩
      simp only [x_nnl, List.mem_cons, Prod.mk.injEq, List.not_mem_nil, or_false] at hn
      omega
  · rw [x_vr_putr, if_neg]
    · exact a2 K' k' j' hn hj
    · rintro ⟨rfl, -⟩
      simp only [x_nul, List.mem_cons, Prod.mk.injEq, List.not_mem_nil, or_false] at hn
      omega
  · rw [x_vr_putr, if_neg]
    · exact a5 K' L j' i' hn hj hi
    · rintro ⟨rfl, -⟩
      simp only [x_ael, List.mem_cons, Prod.mk.injEq, List.not_mem_nil, or_false] at hn
      omega
  · rw [x_vr_putr]
    by_cases e : K' = 13 ∧ j' = j ∧ i' = i
    · rw [if_pos e, e.1]; exact hv.2
    · rw [if_neg e]; exact a6 K' j' i' hn hj
  · rw [x_vr_putr, x_vr_putr, if_neg (c := (7 = 13 ∧ _)) (fun z => by omega)]
    by_cases e : 13 = 13 ∧ x_vr h 7 2 j' = j ∧ i' = i
    · rw [if_pos e]; exact hv
    · rw [if_neg e]; exact a8 j' i' hj hi
  · rw [x_vr_putr, x_vr_putr, if_neg (fun z => by omega), if_neg (fun z => by omega)]; exact a9 j' i' hj hi
  · rw [x_vr_putr, if_neg (fun z => by omega)]; exact a10 j' hj
theorem CI.put18 {h : xH} {j i v : Nat} (hC : CI h) (hv : x_live h 4 v) : CI (x_putr h 18 j i v) := by
  obtain ⟨a1, a2, a3, a4, a5, a6, a7, a8, a9, a10⟩ := hC
  refine ⟨fun K' k' j' hn hj => ?_, fun K' k' j' hn hj => ?_, a3, a4, fun K' L j' i' hn hj hi => ?_, fun K' j' i' hn hj => ?_, a7, fun j' i' hj hi => ?_, fun j' i' hj hi => ?_, fun j' hj => ?_⟩
  · rw [x_vr_putr, if_neg]
    · exact a1 K' k' j' hn hj
    · rintro ⟨rfl, -⟩
      simp only [x_nnl, List.mem_cons, Prod.mk.injEq, List.not_mem_nil, or_false] at hn
      omega
  · rw [x_vr_putr, if_neg]
    · exact a2 K' k' j' hn hj
    · rintro ⟨rfl, -⟩
      simp only [x_nul, List.mem_cons, Prod.mk.injEq, List.not_mem_nil, or_false] at hn
      omega
  · rw [x_vr_putr, if_neg]
    · exact a5 K' L j' i' hn hj hi
    · rintro ⟨rfl, -⟩
      simp only [x_ael, List.mem_cons, Prod.mk.injEq, List.not_mem_nil, or_false] at hn
      omega
  · rw [x_vr_putr]
    by_cases e : K' = 18 ∧ j' = j ∧ i' = i
    · rw [if_pos e, e.1]; exact hv.2
    · rw [if_neg e]; exact a6 K' j' i' hn hj
  · rw [x_vr_putr, x_vr_putr, if_neg (fun z => by omega), if_neg (fun z => by omega)]; exact a8 j' i' hj hi
  · rw [x_vr_putr, x_vr_putr, if_neg (c := (3 = 18 ∧ _)) (fun z => by omega)]
    by_cases e : 18 = 18 ∧ x_vr h 3 3 j' = j ∧ i' = i
    · rw [if_pos e]; exact hv
    · rw [if_neg e]; exact a9 j' i' hj hi
  · rw [x_vr_putr, if_neg (fun z => by omega)]; exact a10 j' hj
theorem CI.put74 {h : xH} {j : Nat} {v : Int32} (hC : CI h) (hr : 0 ≤ v.toInt ∧ v.toInt ≤ 16) (hn : ∀ i : Nat, (i : Int) < v.toInt → x_live h 6 (x_vr h 13 (x_vr h 7 2 j) i)) : CI (x_puti h 7 4 j v) := by
  obtain ⟨a1, a2, a3, a4, a5, a6, a7, a8, a9, a10⟩ := hC
  refine ⟨a1, a2, fun K' k' lo hi j' hm hj => ?_, a4, a5, a6, a7, fun j' i hj hi => ?_, a9, a10⟩
  · rw [x_vi_puti]
    by_cases e : K' = 7 ∧ k' = 4 ∧ j' = j
    · rw [if_pos e]
      simp only [x_rgl, List.mem_cons, Prod.mk.injEq, List.not_mem_nil, or_false] at hm
      omega
    · rw [if_neg e]; exact a3 K' k' lo hi j' hm hj
  · rw [x_vi_puti] at hi
    by_cases e : 7 = 7 ∧ 4 = 4 ∧ j' = j
    · rw [if_pos e] at hi; rw [e.2.2]; exact hn i hi
    · rw [if_neg e] at hi; exact a8 j' i hj hi
theorem CI.put37 {h : xH} {j : Nat} {v : Int32} (hC : CI h) (hr : 0 ≤ v.toInt ∧ v.toInt ≤ 12) (hn : ∀ i : Nat, (i : Int) < v.toInt → x_live h 4 (x_vr h 18 (x_vr h 3 3 j) i)) : CI (x_puti h 3 7 j v) := by
  obtain ⟨a1, a2, a3, a4, a5, a6, a7, a8, a9, a10⟩ := hC
  refine ⟨a1, a2, fun K' k' lo hi j' hm hj => ?_, a4, a5, a6, a7, a8, fun j' i hj hi => ?_, a10⟩
  · rw [x_vi_puti]
    by_cases e : K' = 3 ∧ k' = 7 ∧ j' = j
    · rw [if_pos e]
      simp only [x_rgl, List.mem_cons, Prod.mk.injEq, List.not_mem_nil, or_false] at hm
      omega
    · rw [if_neg e]; exact a3 K' k' lo hi j' hm hj
  · rw [x_vi_puti] at hi
    by_cases e : 3 = 3 ∧ 7 = 7 ∧ j' = j
    · rw [if_pos e] at hi; rw [e.2.2]; exact hn i hi
    · rw [if_neg e] at hi; exact a9 j' i hj hi
