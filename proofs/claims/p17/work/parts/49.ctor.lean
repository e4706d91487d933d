/-! THE CONSTRUCTORS: the class's invariant while objects are being made -/
def QI (h : xH) (E : Nat → Nat → Prop) (A : Nat → Nat → Nat → Prop) : Prop :=
  (∀ K k j, (K, k) ∈ x_nnl → x_live h K j → ¬ E K j → x_live h (x_ft K k) (x_vr h K k j)) ∧
  (∀ K k j, (K, k) ∈ x_nul → x_live h K j → x_vr h K k j ≤ x_cn h (x_ft K k)) ∧
  (∀ K k lo hi j, (K, k, lo, hi) ∈ x_rgl → x_live h K j → lo ≤ (x_vi h K k j).toInt ∧ (x_vi h K k j).toInt ≤ hi) ∧
  (∀ K L j, (K, L) ∈ x_lnl → x_live h K j → x_ln h K j = L) ∧
  (∀ K L j i, (K, L) ∈ x_ael → x_live h K j → i < L → ¬ A K j i → x_live h (x_et K) (x_vr h K j i)) ∧
  (∀ K j i, (K = 13 ∨ K = 17 ∨ K = 18) → x_live h K j → x_vr h K j i ≤ x_cn h (x_et K)) ∧
  (∀ j, x_live h 7 j → x_vi h 7 4 j = 0) ∧ (∀ j, x_live h 3 j → x_vi h 3 7 j = 0) ∧ (∀ j, x_live h 5 j → x_vi h 5 1 j = 0) ∧ (∀ j, x_live h 20 j → x_ln h 20 j ≤ 24)
theorem nnl_K {K k : Nat} (hm : (K, k) ∈ x_nnl) : K ≤ 9 := by simp only [x_nnl, List.mem_cons, Prod.mk.injEq, List.not_mem_nil, or_false] at hm; omega
theorem nul_K {K k : Nat} (hm : (K, k) ∈ x_nul) : K ≤ 9 := by simp only [x_nul, List.mem_cons, Prod.mk.injEq, List.not_mem_nil, or_false] at hm; omega
theorem rgl_K {K k : Nat} {lo hi : Int} (hm : (K, k, lo, hi) ∈ x_rgl) : K ≤ 9 ∧ lo ≤ 0 ∧ 0 ≤ hi := by simp only [x_rgl, List.mem_cons, Prod.mk.injEq, List.not_mem_nil, or_false] at hm; omega
theorem lnl_K {K L : Nat} (hm : (K, L) ∈ x_lnl) : 11 ≤ K ∧ K ≠ 20 := by simp only [x_lnl, List.mem_cons, Prod.mk.injEq, List.not_mem_nil, or_false] at hm; omega
theorem ael_K {K L : Nat} (hm : (K, L) ∈ x_ael) : 11 ≤ K ∧ K ≠ 20 := by simp only [x_ael, List.mem_cons, Prod.mk.injEq, List.not_mem_nil, or_false] at hm; omega
theorem x_newa_lv {h : xH} {K n K' j : Nat} : x_live (x_newa h K n) K' j ↔ x_live h K' j ∨ (K' = K ∧ j = x_cn h K + 1) := x_new_lv (N := n)
theorem x_new_up {h : xH} {K N K' j : Nat} (q : x_live h K' j) : x_live (x_new h K N) K' j := x_new_lv.mpr (Or.inl q)
theorem x_new_le {h : xH} {K N K' : Nat} : x_cn h K' ≤ x_cn (x_new h K N) K' := by
  rw [x_new_cn]
  by_cases e : K' = K
  · rw [if_pos e, e]; omega
  · rw [if_neg e]; exact Nat.le_refl _
theorem QI.new {h : xH} {E : Nat → Nat → Prop} {A : Nat → Nat → Nat → Prop} {K N : Nat} (Q : QI h E A) (hK : K ≤ 9) : QI (x_new h K N) (fun K' j => E K' j ∨ (K' = K ∧ j = x_cn h K + 1)) A := by
  obtain ⟨q1, q2, q3, q4, q5, q6, q7, q8, q9, q10⟩ := Q
  have ob : ∀ K' k j, x_live h K' j → x_vr (x_new h K N) K' k j = x_vr h K' k j ∧ x_vi (x_new h K N) K' k j = x_vi h K' k j := by
    intro K' k j hj
    have : ¬ (K' = K ∧ j = x_cn h K + 1) := by rintro ⟨rfl, rfl⟩; have := hj.2; omega
    exact ⟨if_neg this, if_neg this⟩
  have nw : ∀ K' k j, K' = K ∧ j = x_cn h K + 1 → x_vr (x_new h K N) K' k j = 0 ∧ x_vi (x_new h K N) K' k j = 0 := fun K' k j z => ⟨if_pos z, if_pos z⟩
  have ar : ∀ K' j i, 11 ≤ K' → x_vr (x_new h K N) K' j i = x_vr h K' j i := fun K' j i z => if_neg (fun w => by omega)
  refine ⟨fun K' k j hm hj hE => ?_, fun K' k j hm hj => ?_, fun K' k lo hi j hm hj => ?_, fun K' L j hm hj => ?_, fun K' L j i hm hj hi hA => ?_, fun K' j i hm hj => ?_, fun j hj => ?_, fun j hj => ?_, fun j hj => ?_, fun j hj => ?_⟩
  · rcases x_new_lv.mp hj with z | z
    · rw [(ob K' k j z).1]; exact x_new_up (q1 K' k j hm z (fun w => hE (Or.inl w)))
    · exact absurd (Or.inr z) hE
  · rcases x_new_lv.mp hj with z | z
    · rw [(ob K' k j z).1]; exact Nat.le_trans (q2 K' k j hm z) x_new_le
    · rw [(nw K' k j z).1]; exact Nat.zero_le _
  · rcases x_new_lv.mp hj with z | z
    · rw [(ob K' k j z).2]; exact q3 K' k lo hi j hm z
    · rw [(nw K' k j z).2]; exact (rgl_K hm).2
  · rcases x_new_lv.mp hj with z | z
    · exact q4 K' L j hm z
    · have := lnl_K hm; omega
  · have hb := ael_K hm
    rcases x_new_lv.mp hj with z | z
    · rw [ar K' j i hb.1]; exact x_new_up (q5 K' L j i hm z hi hA)
    · omega
  · rcases x_new_lv.mp hj with z | z
    · rw [ar K' j i (by omega)]; exact Nat.le_trans (q6 K' j i hm z) x_new_le
    · omega
  · rcases x_new_lv.mp hj with z | z
    · rw [(ob 7 4 j z).2]; exact q7 j z
    · exact (nw 7 4 j z).2
  · rcases x_new_lv.mp hj with z | z
    · rw [(ob 3 7 j z).2]; exact q8 j z
    · exact (nw 3 7 j z).2
  · rcases x_new_lv.mp hj with z | z
    · rw [(ob 5 1 j z).2]; exact q9 j z
    · exact (nw 5 1 j z).2
  · rcases x_new_lv.mp hj with z | z
    · exact q10 j z
    · omega
theorem QI.newa {h : xH} {E : Nat → Nat → Prop} {A : Nat → Nat → Nat → Prop} {K n : Nat} (Q : QI h E A) (hK : 11 ≤ K) (hL : ∀ L, (K, L) ∈ x_lnl → n = L) (h20 : K = 20 → n ≤ 24) : QI (x_newa h K n) E (fun K' j i => A K' j i ∨ (K' = K ∧ j = x_cn h K + 1)) := by
  obtain ⟨q1, q2, q3, q4, q5, q6, q7, q8, q9, q10⟩ := Q
  have le : ∀ K', x_cn h K' ≤ x_cn (x_newa h K n) K' := fun K' => x_new_le (N := n)
  have up : ∀ K' j, x_live h K' j → x_live (x_newa h K n) K' j := fun K' j z => x_newa_lv.mpr (Or.inl z)
  have ob : ∀ K' k j, K' ≤ 9 → x_vr (x_newa h K n) K' k j = x_vr h K' k j ∧ x_vi (x_newa h K n) K' k j = x_vi h K' k j := fun K' k j z => ⟨if_neg (fun w => by omega), if_neg (fun w => by omega)⟩
  have ar : ∀ K' j i, x_live h K' j → x_vr (x_newa h K n) K' j i = x_vr h K' j i ∧ x_ln (x_newa h K n) K' j = x_ln h K' j := by
    intro K' j i hj
    have : ¬ (K' = K ∧ j = x_cn h K + 1) := by rintro ⟨rfl, rfl⟩; have := hj.2; omega
    exact ⟨if_neg this, if_neg this⟩
  have nw : ∀ K' j i, K' = K ∧ j = x_cn h K + 1 → x_vr (x_newa h K n) K' j i = 0 ∧ x_ln (x_newa h K n) K' j = n := fun K' k j z => ⟨if_pos z, if_pos z⟩
  have dn : ∀ K' j, K' ≤ 9 → x_live (x_newa h K n) K' j → x_live h K' j := fun K' j z w => (x_newa_lv.mp w).resolve_right (fun y => by omega)
  refine ⟨fun K' k j hm hj hE => ?_, fun K' k j hm hj => ?_, fun K' k lo hi j hm hj => ?_, fun K' L j hm hj => ?_, fun K' L j i hm hj hi hA => ?_, fun K' j i hm hj => ?_, fun j hj => ?_, fun j hj => ?_, fun j hj => ?_, fun j hj => ?_⟩
  · rw [(ob K' k j (nnl_K hm)).1]; exact up _ _ (q1 K' k j hm (dn K' j (nnl_K hm) hj) hE)
  · rw [(ob K' k j (nul_K hm)).1]; exact Nat.le_trans (q2 K' k j hm (dn K' j (nul_K hm) hj)) (le _)
  · rw [(ob K' k j (rgl_K hm).1).2]; exact q3 K' k lo hi j hm (dn K' j (rgl_K hm).1 hj)
  · rcases x_newa_lv.mp hj with z | z
    · rw [(ar K' j 0 z).2]; exact q4 K' L j hm z
    · rw [(nw K' j 0 z).2]; rw [z.1] at hm; exact hL L hm
  · rcases x_newa_lv.mp hj with z | z
    · rw [(ar K' j i z).1]; exact up _ _ (q5 K' L j i hm z hi (fun w => hA (Or.inl w)))
    · exact absurd (Or.inr z) hA
  · rcases x_newa_lv.mp hj with z | z
    · rw [(ar K' j i z).1]; exact Nat.le_trans (q6 K' j i hm z) (le _)
    · rw [(nw K' j i z).1]; exact Nat.zero_le _
  · rw [(ob 7 4 j (by omega)).2]; exact q7 j (dn 7 j (by omega) hj)
  · rw [(ob 3 7 j (by omega)).2]; exact q8 j (dn 3 j (by omega) hj)
  · rw [(ob 5 1 j (by omega)).2]; exact q9 j (dn 5 j (by omega) hj)
  · rcases x_newa_lv.mp hj with z | z
    · rw [(ar 20 j 0 z).2]; exact q10 j z
    · rw [(nw 20 j 0 z).2]; exact h20 z.1.symm
/-- a reference into a field -/
theorem QI.putr {h : xH} {E : Nat → Nat → Prop} {A : Nat → Nat → Nat → Prop} {K k j v : Nat} (Q : QI h E A) (hK : K ≤ 9) (hv : x_live h (x_ft K k) v) : QI (x_putr h K k j v) E A := by
  obtain ⟨q1, q2, q3, q4, q5, q6, q7, q8, q9, q10⟩ := Q
  refine ⟨fun K' k' j' hm hj hE => ?_, fun K' k' j' hm hj => ?_, q3, q4, fun K' L j' i hm hj hi hA => ?_, fun K' j' i hm hj => ?_, q7, q8, q9, q10⟩
  · rw [x_vr_putr]
    by_cases e : K' = K ∧ k' = k ∧ j' = j
    · rw [if_pos e, e.1, e.2.1]; exact hv
    · rw [if_neg e]; exact q1 K' k' j' hm hj hE
  · rw [x_vr_putr]
    by_cases e : K' = K ∧ k' = k ∧ j' = j
    · rw [if_pos e, e.1, e.2.1]; exact hv.2
    · rw [if_neg e]; exact q2 K' k' j' hm hj
  · have := ael_K hm
    rw [x_vr_putr, if_neg (by omega)]; exact q5 K' L j' i hm hj hi hA
  · rw [x_vr_putr, if_neg (by omega)]; exact q6 K' j' i hm hj
/-- a reference into an array -/
theorem QI.puta {h : xH} {E : Nat → Nat → Prop} {A A' : Nat → Nat → Nat → Prop} {K j i v : Nat} (Q : QI h E A) (hK : 11 ≤ K) (hv : x_live h (x_et K) v) (hA : ∀ K' j' i', A K' j' i' → A' K' j' i' ∨ (K' = K ∧ j' = j ∧ i' = i)) : QI (x_putr h K j i v) E A' := by
  obtain ⟨q1, q2, q3, q4, q5, q6, q7, q8, q9, q10⟩ := Q
  refine ⟨fun K' k' j' hm hj hE => ?_, fun K' k' j' hm hj => ?_, q3, q4, fun K' L j' i' hm hj hi hA' => ?_, fun K' j' i' hm hj => ?_, q7, q8, q9, q10⟩
  · have := nnl_K hm
    rw [x_vr_putr, if_neg (by omega)]; exact q1 K' k' j' hm hj hE
  · have := nul_K hm
    rw [x_vr_putr, if_neg (by omega)]; exact q2 K' k' j' hm hj
  · rw [x_vr_putr]
    by_cases e : K' = K ∧ j' = j ∧ i' = i
    · rw [if_pos e, e.1]; exact hv
    · rw [if_neg e]; exact q5 K' L j' i' hm hj hi (fun z => (hA K' j' i' z).elim hA' e)
  · rw [x_vr_putr]
    by_cases e : K' = K ∧ j' = j ∧ i' = i
    · rw [if_pos e, e.1]; exact hv.2
    · rw [if_neg e]; exact q6 K' j' i' hm hj
theorem QI.puti {h : xH} {E : Nat → Nat → Prop} {A : Nat → Nat → Nat → Prop} {K k j : Nat} {v : Int32} (Q : QI h E A) (hr : ∀ lo hi, (K, k, lo, hi) ∈ x_rgl → lo ≤ v.toInt ∧ v.toInt ≤ hi) (n1 : ¬ (7 = K ∧ 4 = k)) (n2 : ¬ (3 = K ∧ 7 = k)) (n3 : ¬ (5 = K ∧ 1 = k)) : QI (x_puti h K k j v) E A := by
  obtain ⟨q1, q2, q3, q4, q5, q6, q7, q8, q9, q10⟩ := Q
  refine ⟨q1, q2, fun K' k' lo hi j' hm hj => ?_, q4, q5, q6, fun j' hj => ?_, fun j' hj => ?_, fun j' hj => ?_, q10⟩
  · rw [x_vi_puti]
    by_cases e : K' = K ∧ k' = k ∧ j' = j
    · rw [if_pos e]; rw [e.1, e.2.1] at hm; exact hr lo hi hm
    · rw [if_neg e]; exact q3 K' k' lo hi j' hm hj
  · rw [x_vi_puti, if_neg (fun z => n1 ⟨z.1, z.2.1⟩)]; exact q7 j' hj
  · rw [x_vi_puti, if_neg (fun z => n2 ⟨z.1, z.2.1⟩)]; exact q8 j' hj
  · rw [x_vi_puti, if_neg (fun z => n3 ⟨z.1, z.2.1⟩)]; exact q9 j' hj
/-- an object is done -/
theorem QI.done {h : xH} {E E' : Nat → Nat → Prop} {A A' : Nat → Nat → Nat → Prop} (Q : QI h E A) (hE : ∀ K j, E K j → E' K j ∨ ∀ k, (K, k) ∈ x_nnl → x_live h (x_ft K k) (x_vr h K k j)) (hA : ∀ K j i, A K j i → A' K j i ∨ ∀ L, (K, L) ∉ x_ael ∨ L ≤ i) : QI h E' A' := by
  obtain ⟨q1, q2, q3, q4, q5, q6, q7, q8, q9, q10⟩ := Q
  refine ⟨fun K k j hm hj hn => ?_, q2, q3, q4, fun K L j i hm hj hi hn => ?_, q6, q7, q8, q9, q10⟩
  · by_cases z : E K j
    · exact (hE K j z).elim (fun w => absurd w hn) (fun w => w k hm)
    · exact q1 K k j hm hj z
  · by_cases z : A K j i
    · rcases hA K j i z with w | w
      · exact absurd w hn
      · rcases w L with y | y
        · exact absurd hm y
        · omega
    · exact q5 K L j i hm hj hi z
theorem QI.row {h : xH} {E : Nat → Nat → Prop} {A : Nat → Nat → Nat → Prop} {n : Nat} (Q : QI h E A) (hn : n ≤ 24) : QI (x_putr (x_newa (x_new h 5 2) 20 n) 5 0 (x_cn h 5 + 1) (x_cn h 20 + 1)) E A := by
  have l20 : x_live (x_newa (x_new h 5 2) 20 n) 20 (x_cn h 20 + 1) := x_newa_lv.mpr (Or.inr ⟨rfl, rfl⟩)
  refine QI.done (((Q.new (K := 5) (N := 2) (by omega)).newa (K := 20) (n := n) (by omega) (fun L hm => absurd rfl (lnl_K hm).2) (fun _ => hn)).putr (k := 0) (by omega) l20) (fun K j z => ?_) (fun K j i z => ?_)
  · rcases z with z | ⟨rfl, rfl⟩
    · exact Or.inl z
    · refine Or.inr (fun k hm => ?_)
      have : k = 0 := by simp only [x_nnl, List.mem_cons, Prod.mk.injEq, List.not_mem_nil, or_false] at hm; omega
      subst this
      rw [x_vr_putr, if_pos ⟨rfl, rfl, rfl⟩]
      exact l20
  · rcases z with z | ⟨rfl, rfl⟩
    · exact Or.inl z
    · exact Or.inr (fun L => Or.inl (fun hm => absurd rfl (ael_K hm).2))
theorem QI.line {h : xH} {E : Nat → Nat → Prop} {A : Nat → Nat → Nat → Prop} {o n : Int32} (Q : QI h E A) (ho : 0 ≤ o.toInt ∧ o.toInt ≤ 2) (hn : 0 ≤ n.toInt ∧ n.toInt ≤ 23) : QI (x_puti (x_puti (x_puti (x_new h 2 6) 2 3 (x_cn h 2 + 1) 0) 2 0 (x_cn h 2 + 1) o) 2 1 (x_cn h 2 + 1) n) E A := by
  refine QI.done ((((Q.new (K := 2) (N := 6) (by omega)).puti (fun lo hi hm => by simp only [x_rgl, List.mem_cons, Prod.mk.injEq, List.not_mem_nil, or_false] at hm; omega) (by omega) (by omega) (by omega)).puti (fun lo hi hm => by simp only [x_rgl, List.mem_cons, Prod.mk.injEq, List.not_mem_nil, or_false] at hm; omega) (by omega) (by omega) (by omega)).puti (fun lo hi hm => by simp only [x_rgl, List.mem_cons, Prod.mk.injEq, List.not_mem_nil, or_false] at hm; omega) (by omega) (by omega) (by omega)) (fun K j z => ?_) (fun K j i z => Or.inl z)
  rcases z with z | ⟨rfl, rfl⟩
  · exact Or.inl z
  · refine Or.inr (fun k hm => ?_)
    simp only [x_nnl, List.mem_cons, Prod.mk.injEq, List.not_mem_nil, or_false] at hm
    omega
/-- the heap with a new call of line c -/
def cl_h (h : xH) (c : Nat) : xH := x_putr (x_putr (x_putr (x_putr (x_newa (x_new (x_new h 1 15) 5 2) 20 8) 5 0 (x_cn h 5 + 1) (x_cn h 20 + 1)) 1 1 (x_cn h 1 + 1) (x_cn h 5 + 1)) 1 2 (x_cn h 1 + 1) 1) 1 0 (x_cn h 1 + 1) c
theorem cl_cn {h : xH} {c : Nat} (K : Nat) : x_cn (cl_h h c) K = x_cn h K + (if K = 1 ∨ K = 5 ∨ K = 20 then 1 else 0) := by
  show x_cn (x_newa (x_new (x_new h 1 15) 5 2) 20 8) K = _
  simp only [x_newa_cn, x_new_cn]
  by_cases e1 : K = 20
  · subst e1; simp
  · by_cases e2 : K = 5
    · subst e2; simp
    · by_cases e3 : K = 1
      · subst e3; simp
      · simp [e1, e2, e3]
theorem QI.call {h : xH} {E : Nat → Nat → Prop} {A : Nat → Nat → Nat → Prop} {c : Nat} (Q : QI h E A) (hc : x_live h 2 c) (h9 : x_cn h 9 = 6) : QI (cl_h h c) E A := by
  unfold cl_h
  have Q1 := ((Q.new (K := 1) (N := 15) (by omega)).row (n := 8) (by omega))
  have e5 : x_cn (x_new h 1 15) 5 = x_cn h 5 := rfl
  have e20 : x_cn (x_new h 1 15) 20 = x_cn h 20 := rfl
  rw [e5, e20] at Q1
  have l5 : x_live (x_putr (x_newa (x_new (x_new h 1 15) 5 2) 20 8) 5 0 (x_cn h 5 + 1) (x_cn h 20 + 1)) 5 (x_cn h 5 + 1) := (show x_live (x_newa (x_new (x_new h 1 15) 5 2) 20 8) 5 (x_cn h 5 + 1) from x_newa_lv.mpr (Or.inl (x_new_lv.mpr (Or.inr ⟨rfl, rfl⟩))))
  have l2 : x_live (x_putr (x_newa (x_new (x_new h 1 15) 5 2) 20 8) 5 0 (x_cn h 5 + 1) (x_cn h 20 + 1)) 2 c := (show x_live (x_newa (x_new (x_new h 1 15) 5 2) 20 8) 2 c from x_newa_lv.mpr (Or.inl (x_new_up (x_new_up hc))))
  have l9 : x_live (x_putr (x_newa (x_new (x_new h 1 15) 5 2) 20 8) 5 0 (x_cn h 5 + 1) (x_cn h 20 + 1)) 9 1 := ⟨by omega, by show 1 ≤ x_cn h 9; omega⟩
  have Q2 := ((Q1.putr (K := 1) (k := 1) (j := x_cn h 1 + 1) (by omega) l5).putr (K := 1) (k := 2) (j := x_cn h 1 + 1) (by omega) l9).putr (K := 1) (k := 0) (j := x_cn h 1 + 1) (by omega) l2
  refine QI.done Q2 (fun K j z => ?_) (fun K j i z => Or.inl z)
  rcases z with z | ⟨rfl, rfl⟩
  · exact Or.inl z
  · refine Or.inr (fun k hm => ?_)
    have : k = 0 ∨ k = 1 := by simp only [x_nnl, List.mem_cons, Prod.mk.injEq, List.not_mem_nil, or_false] at hm; omega
    rcases this with rfl | rfl
    · rw [x_vr_putr, if_pos ⟨rfl, rfl, rfl⟩]; exact l2
    · rw [x_vr_putr, if_neg (by omega), x_vr_putr, if_neg (by omega), x_vr_putr, if_pos ⟨rfl, rfl, rfl⟩]; exact l5
theorem tv8 {h : xH} {Z : xO → xH → Prop} {x0 : Nat} {x1 x2 : Int32} (hc : x_ce h = 0) (hs : x_so h = 0) (g0 : x_live h 2 x0) (hZ : Z (.inl none) (x_puti (x_puti (x_puti h 2 3 x0 0) 2 0 x0 x1) 2 1 x0 x2)) : xC 10 8 [.inr (.inr (2, x0)), .inl x1, .inl x2] h Z := by
  refine ⟨rfl, hc, hs, xR.blk c8_0 ?_⟩
  exact q_aload rfl (by decide) (q_objinit (by decide) g0.1 (Nat.le_of_ble_eq_true rfl) (q_aload rfl (by decide) (q_iconst (q_pfi g0 (q_aload rfl (by decide) (q_iload rfl (q_pfi g0 (q_aload rfl (by decide) (q_iload rfl (q_pfi g0 (q_ret hZ)))))))))))
theorem tv1 {h : xH} {Z : xO → xH → Prop} {x1 : Nat} (hZ : ∀ g : xH, (∃ a b, g = x_setc (cl_h h x1) a b) → Z (.inl none) g) : xC 30 1 [.inr (.inr (1, x_cn h 1 + 1)), .inr (.inr (2, x1))] (x_setc (x_new h 1 15) 0 0) Z := by
  have l1 : x_live (x_new h 1 15) 1 (x_cn h 1 + 1) := x_new_lv.mpr (Or.inr ⟨rfl, rfl⟩)
  have l5 : x_live (x_new (x_new h 1 15) 5 2) 5 (x_cn h 5 + 1) := x_new_lv.mpr (Or.inr ⟨rfl, rfl⟩)
  refine ⟨rfl, rfl, rfl, xR.blk c1_0 ?_⟩
  refine q_aload rfl (by decide) (q_objinit (by decide) l1.1 (Nat.le_of_ble_eq_true rfl) (q_aload rfl (by decide) (q_newo (Nat.le_of_ble_eq_true rfl) (Nat.le_of_ble_eq_true rfl) (q_dup rfl (q_iconst (q_calli rfl (by decide) l5.1 (by decide) (Nat.le_of_ble_eq_true rfl) (Nat.le_of_ble_eq_true rfl) (Nat.le_of_ble_eq_true rfl) (Nat.le_of_ble_eq_true rfl) ?_))))))
  refine xC.up (tv0 (h := x_setc (x_new (x_setc (x_new h 1 15) 0 0) 5 2) 0 0) (x0 := x_cn h 5 + 1) (x1 := 8) rfl rfl l5 (by decide) ?_) (by omega)
  have l1' : x_live (cl_h h x1) 1 (x_cn h 1 + 1) := ⟨by omega, by rw [cl_cn]; simp⟩
  exact q_pfr l1' (q_aload rfl (by decide) (q_stage (q_pfr l1' (q_aload rfl (by decide) (q_aload rfl (by decide) (q_pfr l1' (q_ret (hZ _ ⟨_, _, rfl⟩))))))))
