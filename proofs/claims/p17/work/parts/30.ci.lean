/-! THE CLASS'S INVARIANT: what its objects hold, kind by kind -/
/-- a call of method μ with fuel n -/
abbrev xC (n μ : Nat) (a : List xV) (h : xH) (Z : xO → xH → Prop) : Prop := x_argok (x_xm μ).mL a = true ∧ x_ce h = 0 ∧ x_so h = 0 ∧ xR n μ 0 (x_init (x_xm μ).mL a, [], h) Z
theorem xR.blk {n μ pc : Nat} {S : xS} {Z : xO → xH → Prop} {L : List (Nat × xI)} (hc : x_cd μ pc = L) (h : x_seq L (xC n) Z (fun pc' S' => xR n μ pc' S' Z) S) : xR (n + 1) μ pc S Z := by
  show x_seq (x_cd μ pc) _ _ _ _
  rw [hc]
  exact h
/-- fields that are never null -/
def x_nnl : List (Nat × Nat) := [(1, 0), (1, 1), (3, 1), (3, 2), (3, 3), (3, 4), (3, 5), (3, 6), (4, 2), (5, 0), (7, 0), (7, 1), (7, 2), (7, 3)]
/-- fields that may be null -/
def x_nul : List (Nat × Nat) := [(1, 2), (1, 3), (1, 4), (2, 5), (6, 3)]
/-- ints with bounds -/
def x_rgl : List (Nat × Nat × Int × Int) := [(1, 7, 0, 2), (2, 0, 0, 2), (2, 1, 0, 23), (3, 0, 0, 2), (3, 7, 0, 12), (3, 8, 0, 3), (6, 2, 0, 1), (7, 4, 0, 16)]
/-- arrays' lengths -/
def x_lnl : List (Nat × Nat) := [(11, 3), (12, 72), (13, 16), (14, 3), (15, 3), (16, 24), (17, 33), (18, 12), (19, 4)]
/-- arrays without null -/
def x_ael : List (Nat × Nat) := [(11, 3), (12, 72), (14, 3), (16, 24), (19, 4)]
/-- how many there are -/
def x_cnl : List (Nat × Nat) := [(1, 72), (2, 72), (3, 3), (7, 1), (9, 6), (11, 1), (12, 1), (13, 1), (14, 1), (15, 3), (16, 3), (17, 3), (18, 3), (19, 3)]
def CI (h : xH) : Prop :=
  (∀ K k j, (K, k) ∈ x_nnl → x_live h K j → x_live h (x_ft K k) (x_vr h K k j)) ∧
  (∀ K k j, (K, k) ∈ x_nul → x_live h K j → x_vr h K k j ≤ x_cn h (x_ft K k)) ∧
  (∀ K k lo hi j, (K, k, lo, hi) ∈ x_rgl → x_live h K j → lo ≤ (x_vi h K k j).toInt ∧ (x_vi h K k j).toInt ≤ hi) ∧
  (∀ K L j, (K, L) ∈ x_lnl → x_live h K j → x_ln h K j = L) ∧
  (∀ K L j i, (K, L) ∈ x_ael → x_live h K j → i < L → x_live h (x_et K) (x_vr h K j i)) ∧
  (∀ K j i, (K = 13 ∨ K = 17 ∨ K = 18) → x_live h K j → x_vr h K j i ≤ x_cn h (x_et K)) ∧
  (∀ K n, (K, n) ∈ x_cnl → x_cn h K = n) ∧
  (∀ j i : Nat, x_live h 7 j → (i : Int) < (x_vi h 7 4 j).toInt → x_live h 6 (x_vr h 13 (x_vr h 7 2 j) i)) ∧
  (∀ j i : Nat, x_live h 3 j → (i : Int) < (x_vi h 3 7 j).toInt → x_live h 4 (x_vr h 18 (x_vr h 3 3 j) i)) ∧
  (∀ j, x_live h 5 j → 0 ≤ (x_vi h 5 1 j).toInt ∧ (x_vi h 5 1 j).toInt ≤ x_ln h 20 (x_vr h 5 0 j) ∧ x_ln h 20 (x_vr h 5 0 j) ≤ 24)
theorem x_vi_puti {h : xH} {K k i : Nat} {v : Int32} {K' k' i' : Nat} : x_vi (x_puti h K k i v) K' k' i' = if K' = K ∧ k' = k ∧ i' = i then v else x_vi h K' k' i' := rfl
theorem x_vr_putr {h : xH} {K k i v K' k' i' : Nat} : x_vr (x_putr h K k i v) K' k' i' = if K' = K ∧ k' = k ∧ i' = i then v else x_vr h K' k' i' := rfl
theorem CI.puti {h : xH} {K k j : Nat} {v : Int32} (hC : CI h) (hr : ∀ lo hi, (K, k, lo, hi) ∈ x_rgl → lo ≤ v.toInt ∧ v.toInt ≤ hi) (n1 : ¬ (7 = K ∧ 4 = k)) (n2 : ¬ (3 = K ∧ 7 = k)) (n3 : ¬ (5 = K ∧ 1 = k)) : CI (x_puti h K k j v) := by
  obtain ⟨a1, a2, a3, a4, a5, a6, a7, a8, a9, a10⟩ := hC
  refine ⟨a1, a2, fun K' k' lo hi j' hm hj => ?_, a4, a5, a6, a7, fun j' i hj => ?_, fun j' i hj => ?_, fun j' hj => ?_⟩
  · rw [x_vi_puti]
    by_cases e : K' = K ∧ k' = k ∧ j' = j
    · rw [if_pos e]; rw [e.1, e.2.1] at hm; exact hr lo hi hm
    · rw [if_neg e]; exact a3 K' k' lo hi j' hm hj
  · rw [x_vi_puti, if_neg (fun z => n1 ⟨z.1, z.2.1⟩)]; exact a8 j' i hj
  · rw [x_vi_puti, if_neg (fun z => n2 ⟨z.1, z.2.1⟩)]; exact a9 j' i hj
  · rw [x_vi_puti, if_neg (fun z => n3 ⟨z.1, z.2.1⟩)]; exact a10 j' hj
/-- a field that may be null -/
theorem CI.putr {h : xH} {K k j v : Nat} (hC : CI h) (hm : (K, k) ∈ x_nul) (hv : v ≤ x_cn h (x_ft K k)) : CI (x_putr h K k j v) := by
  obtain ⟨a1, a2, a3, a4, a5, a6, a7, a8, a9, a10⟩ := hC
  have hne : ∀ k', (K, k') ∉ x_nnl ∨ k' ≠ k := by
    intro k'
    simp only [x_nul, List.mem_cons, Prod.mk.injEq, List.not_mem_nil, or_false] at hm
    simp only [x_nnl, List.mem_cons, Prod.mk.injEq, List.not_mem_nil, or_false]
    omega
  have hK : K = 1 ∨ K = 2 ∨ K = 6 := by
    simp only [x_nul, List.mem_cons, Prod.mk.injEq, List.not_mem_nil, or_false] at hm
    omega
  refine ⟨fun K' k' j' hn hj => ?_, fun K' k' j' hn hj => ?_, a3, a4, fun K' L j' i hn hj hi => ?_, fun K' j' i hn hj => ?_, a7, fun j' i hj hi => ?_, fun j' i hj hi => ?_, fun j' hj => ?_⟩
  · rw [x_vr_putr, if_neg]
    · exact a1 K' k' j' hn hj
    · rintro ⟨rfl, rfl, -⟩
      rcases hne k' with q | q
      · exact q hn
      · exact q rfl
  · rw [x_vr_putr]
    by_cases e : K' = K ∧ k' = k ∧ j' = j
    · rw [if_pos e, e.1, e.2.1]; exact hv
    · rw [if_neg e]; exact a2 K' k' j' hn hj
  · rw [x_vr_putr, if_neg]
    · exact a5 K' L j' i hn hj hi
    · rintro ⟨rfl, -⟩
      simp only [x_ael, List.mem_cons, Prod.mk.injEq, List.not_mem_nil, or_false] at hn
      omega
  · rw [x_vr_putr, if_neg]
    · exact a6 K' j' i hn hj
    · rintro ⟨rfl, -⟩
      omega
  · rw [x_vr_putr, x_vr_putr, if_neg (fun z => by omega), if_neg (fun z => by omega)]; exact a8 j' i hj hi
  · rw [x_vr_putr, x_vr_putr, if_neg (fun z => by omega), if_neg (fun z => by omega)]; exact a9 j' i hj hi
  · rw [x_vr_putr, if_neg (fun z => by omega)]; exact a10 j' hj
/-- a holder -/
theorem CI.put17 {h : xH} {j i v : Nat} (hC : CI h) (hv : v ≤ x_cn h 1) : CI (x_putr h 17 j i v) := by
  obtain ⟨a1, a2, a3, a4, a5, a6, a7, a8, a9, a10⟩ := hC
  refine ⟨fun K' k' j' hn hj => ?_, fun K' k' j' hn hj => ?_, a3, a4, fun K' L j' i' hn hj hi => ?_, fun K' j' i' hn hj => ?_, a7, fun j' i' hj hi => ?_, fun j' i' hj hi => ?_, fun j' hj => ?_⟩
  · rw [x_vr_putr, if_neg]
    · exact a1 K' k' j' hn hj
    · rintro ⟨rfl, -⟩
      simp only [x_nnl, List.mem_cons, Prod.mk.injEq, List.not_mem_nil, or_false] at hn
      omega
  · rw [x_vr_putr, if_neg]
    · exact a2 K' k' j' hn hj
    · rintro ⟨rfl, -⟩
      simp only [x_nul, List.mem_cons, Prod.mk.injEq, List.not_mem_nil, or_false] at hn
      omega
  · rw [x_vr_putr, if_neg]
    · exact a5 K' L j' i' hn hj hi
    · rintro ⟨rfl, -⟩
      simp only [x_ael, List.mem_cons, Prod.mk.injEq, List.not_mem_nil, or_false] at hn
      omega
  · rw [x_vr_putr]
    by_cases e : K' = 17 ∧ j' = j ∧ i' = i
    · rw [if_pos e, e.1]; exact hv
    · rw [if_neg e]; exact a6 K' j' i' hn hj
  · rw [x_vr_putr, x_vr_putr, if_neg (fun z => by omega), if_neg (fun z => by omega)]; exact a8 j' i' hj hi
  · rw [x_vr_putr, x_vr_putr, if_neg (fun z => by omega), if_neg (fun z => by omega)]; exact a9 j' i' hj hi
  · rw [x_vr_putr, if_neg (fun z => by omega)]; exact a10 j' hj
