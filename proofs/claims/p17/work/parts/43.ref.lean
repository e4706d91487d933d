/-! THE REFERENCE: seize, release, jobs, end -/
theorem MX.give {e : Nat} {F : xF} {K i : Nat} {v : Int32} (M : MX e F) (hK : K = 36 ∨ K = 37 ∨ K = 38 ∨ K = 41) (hv : -1 ≤ v.toInt ∧ v.toInt ≤ 71) : MX e (x_u2 F K i v) := by
  rcases hK with rfl | rfl | rfl | rfl
  · exact M.put (fun lo hi hm => by simp only [mrl, List.mem_cons, Prod.mk.injEq, List.not_mem_nil, or_false] at hm; omega) (by decide) (fun z => absurd z (by decide)) (Or.inl rfl)
  · exact M.put (fun lo hi hm => by simp only [mrl, List.mem_cons, Prod.mk.injEq, List.not_mem_nil, or_false] at hm; omega) (by decide) (fun z => absurd z (by decide)) (Or.inl rfl)
  · exact M.put (fun lo hi hm => by simp only [mrl, List.mem_cons, Prod.mk.injEq, List.not_mem_nil, or_false] at hm; omega) (by decide) (fun z => absurd z (by decide)) (Or.inl rfl)
  · exact M.put (fun lo hi hm => by simp only [mrl, List.mem_cons, Prod.mk.injEq, List.not_mem_nil, or_false] at hm; omega) (by decide) (fun z => absurd z (by decide)) (Or.inl rfl)
theorem MX.seize {c : Nat} {F : xF} {j K i : Nat} {v w t : Int32} (M : MX c F) (hV : VC t.toInt) (hw : 0 ≤ w.toInt ∧ w.toInt ≤ 16) (hK : K = 36 ∨ K = 37 ∨ K = 38 ∨ K = 41) (hv : -1 ≤ v.toInt ∧ v.toInt ≤ 71) : MX c (x_u2 (x_u2 (x_u2 F 64 j t) 63 c w) K i v) := by
  refine MX.give ?_ hK hv
  refine MX.put (MX.put M (fun lo hi hm => by simp only [mrl, List.mem_cons, Prod.mk.injEq, List.not_mem_nil, or_false] at hm; omega) (by decide) (fun _ => hV) (Or.inl rfl)) (fun lo hi hm => by simp only [mrl, List.mem_cons, Prod.mk.injEq, List.not_mem_nil, or_false] at hm; omega) (by decide) (fun z => absurd z (by decide)) (Or.inr rfl)
/-- what is left when things are given -/
theorem gv_ne {K K' : Nat} (hK : K = 36 ∨ K = 37 ∨ K = 38 ∨ K = 41) (h1 : K' ≠ 36) (h2 : K' ≠ 37) (h3 : K' ≠ 38) (h4 : K' ≠ 41) : K' ≠ K := by omega
theorem MX.putT {e c : Nat} {F : xF} {v : Int32} (M : MX e F) (hv : 0 ≤ v.toInt ∧ v.toInt ≤ (F 63 c).toInt) : MX e (x_u2 F 63 c v) := by
  obtain ⟨m1, m2, m3, m4, m5, m6⟩ := M
  refine ⟨fun K' lo hi i' hm => ?_, m2, m3, fun c' h72 hc => ?_, m5, m6⟩
  · unfold x_u2
    by_cases q : K' = 63 ∧ i' = c
    · rw [if_pos q]
      have e63 := m1 63 0 16 c (by decide)
      rw [q.1] at hm
      simp only [mrl, List.mem_cons, Prod.mk.injEq, List.not_mem_nil, or_false] at hm
      omega
    · rw [if_neg q]; exact m1 K' lo hi i' hm
  · have s := m4 c' h72 hc
    unfold SL at s ⊢
    show ((F 47 c').toInt = 1 → (F 48 c').toInt ≤ 4) ∧ (1 ≤ (F 47 c').toInt ∧ (F 47 c').toInt ≤ 3 → (x_u2 F 63 c v 63 c').toInt ≤ 3 * mpop (F 55 c').toInt - 2) ∧ (4 ≤ (F 47 c').toInt → 0 ≤ (F 57 c').toInt) ∧ (0 ≤ (F 24 c').toInt → (F 47 c').toInt = 0)
    refine ⟨s.1, fun z => ?_, s.2.2⟩
    have s2 := s.2.1 z
    unfold x_u2
    by_cases q : 63 = 63 ∧ c' = c
    · rw [if_pos q]; rw [q.2] at s2 ⊢; omega
    · rw [if_neg q]; exact s2
theorem MX.filt {e o n : Nat} {F G : xF} (M : MX e F) (ho : o < 3) (h1 : ∀ K i, K ≠ 45 → K ≠ 46 → G K i = F K i) (h2 : ∀ i, i ≠ o → G 45 i = F 45 i) (h3 : ∀ j, ¬ (72 * o ≤ j ∧ j < 72 * o + 72) → G 46 j = F 46 j)
    (h4 : ∀ j, 0 ≤ (G 46 j).toInt ∧ (G 46 j).toInt ≤ 71) (hn : (G 45 o).toInt = n) (hn2 : n ≤ 72) (f : Nat → Nat) (hf : ∀ i, i < n → (f i : Int) < (F 45 o).toInt ∧ G 46 (72 * o + i) = F 46 (72 * o + f i)) (hm : ∀ i i', i < i' → i' < n → f i < f i') : MX e G := by
  obtain ⟨m1, m2, m3, m4, m5, m6⟩ := M
  have r45 := fun o => m1 45 0 72 o (by decide)
  refine ⟨fun K lo hi i hK => ?_, fun k lo hi hk => ?_, fun i => ?_, fun c h72 hc => ?_, fun o' k ho' hk => ?_, fun o' k ho' hk => ?_⟩
  · by_cases q : K = 45
    · subst q
      by_cases q2 : i = o
      · subst q2
        simp only [mrl, List.mem_cons, Prod.mk.injEq, List.not_mem_nil, or_false] at hK
        omega
      · rw [h2 i q2]; exact m1 45 lo hi i hK
    · by_cases q3 : K = 46
      · subst q3
        simp only [mrl, List.mem_cons, Prod.mk.injEq, List.not_mem_nil, or_false] at hK
        have := h4 i
        omega
      · rw [h1 K i q q3]; exact m1 K lo hi i hK
  · rw [h1 8 k (by decide) (by decide)]; exact m2 k lo hi hk
  · rw [h1 64 i (by decide) (by decide)]; exact m3 i
  · have s := m4 c h72 hc
    unfold SL at s ⊢
    rw [h1 47 c (by decide) (by decide), h1 48 c (by decide) (by decide), h1 63 c (by decide) (by decide), h1 55 c (by decide) (by decide), h1 57 c (by decide) (by decide), h1 24 c (by decide) (by decide)]
    exact s
  · by_cases q : o' = o
    · subst q
      rw [hn] at hk
      have a := hf k (by omega)
      rw [a.2]
      exact m5 o' (f k) ho' a.1
    · rw [h2 o' q] at hk
      have := r45 o'
      rw [h3 _ (by omega)]
      exact m5 o' k ho' hk
  · by_cases q : o' = o
    · subst q
      rw [hn] at hk
      have a := hf k (by omega)
      obtain ⟨b1, b2⟩ := m6 o' (f k) ho' a.1
      rw [a.2]
      refine ⟨by rw [h1 47 _ (by decide) (by decide)]; exact b1, fun k' hk1 hk2 => ?_⟩
      rw [hn] at hk2
      have a' := hf k' (by omega)
      rw [a'.2]
      exact b2 (f k') (hm k k' hk1 (by omega)) a'.1
    · rw [h2 o' q] at hk
      have := r45 o'
      obtain ⟨b1, b2⟩ := m6 o' k ho' hk
      rw [h3 _ (by omega)]
      refine ⟨by rw [h1 47 _ (by decide) (by decide)]; exact b1, fun k' hk1 hk2 => ?_⟩
      rw [h2 o' q] at hk2
      rw [h3 _ (by omega)]
      exact b2 k' hk1 hk2
theorem MX.addJ {c o : Nat} {F : xF} {v w : Int32} (M : MX c F) (hc : c < 72) (ho : o < 3) (hst : (F 47 c).toInt = 2) (hs : SL F c) (hv : v.toInt = c) (hw : w.toInt = (F 45 o).toInt + 1) (hr : (F 45 o).toInt ≤ 71) : MX 72 (x_u2 (x_u2 F 46 (72 * o + (F 45 o).toInt.toNat) v) 45 o w) := by
  obtain ⟨m1, m2, m3, m4, m5, m6⟩ := M
  have r45 := fun o => m1 45 0 72 o (by decide)
  have hvc : v.toNatClampNeg = c := by have := x_clamp (n := v) (by omega); omega
  have e45 : ∀ o', o' ≠ o → x_u2 (x_u2 F 46 (72 * o + (F 45 o).toInt.toNat) v) 45 o w 45 o' = F 45 o' := fun o' q => by rw [u2_ni q]; rfl
  have e45o : x_u2 (x_u2 F 46 (72 * o + (F 45 o).toInt.toNat) v) 45 o w 45 o = w := u2_eq
  have e46 : ∀ j, j ≠ 72 * o + (F 45 o).toInt.toNat → x_u2 (x_u2 F 46 (72 * o + (F 45 o).toInt.toNat) v) 45 o w 46 j = F 46 j := fun j q => by rw [u2_ne (by decide), u2_ni q]
  have e46o : x_u2 (x_u2 F 46 (72 * o + (F 45 o).toInt.toNat) v) 45 o w 46 (72 * o + (F 45 o).toInt.toNat) = v := by rw [u2_ne (by decide), u2_eq]
  have eK : ∀ K i, K ≠ 45 → K ≠ 46 → x_u2 (x_u2 F 46 (72 * o + (F 45 o).toInt.toNat) v) 45 o w K i = F K i := fun K i q1 q2 => by rw [u2_ne q1, u2_ne q2]
  generalize x_u2 (x_u2 F 46 (72 * o + (F 45 o).toInt.toNat) v) 45 o w = G at e45 e45o e46 e46o eK ⊢
  have mem : ∀ o' k : Nat, o' < 3 → (k : Int) < (G 45 o').toInt → (o' = o ∧ (k : Int) = (F 45 o).toInt ∧ G 46 (72 * o' + k) = v) ∨ ((k : Int) < (F 45 o').toInt ∧ G 46 (72 * o' + k) = F 46 (72 * o' + k)) := by
    intro o' k ho' hk
    have ro := r45 o
    have ro' := r45 o'
    by_cases q : o' = o
    · subst q
      rw [e45o] at hk
      by_cases q2 : (k : Int) = (F 45 o').toInt
      · refine Or.inl ⟨rfl, q2, ?_⟩
        rw [show 72 * o' + k = 72 * o' + (F 45 o').toInt.toNat by omega]
        exact e46o
      · exact Or.inr ⟨by omega, e46 _ (by omega)⟩
    · rw [e45 o' q] at hk
      exact Or.inr ⟨hk, e46 _ (by omega)⟩
  refine ⟨fun K lo hi i hK => ?_, fun k lo hi hk => ?_, fun i => ?_, fun c' h72 _ => ?_, fun o' k ho' hk => ?_, fun o' k ho' hk => ?_⟩
  · by_cases q : K = 45
    · subst q
      by_cases q2 : i = o
      · subst q2
        rw [e45o]
        have := r45 i
        simp only [mrl, List.mem_cons, Prod.mk.injEq, List.not_mem_nil, or_false] at hK
        omega
      · rw [e45 i q2]; exact m1 45 lo hi i hK
    · by_cases q3 : K = 46
      · subst q3
        by_cases q4 : i = 72 * o + (F 45 o).toInt.toNat
        · rw [q4, e46o]
          simp only [mrl, List.mem_cons, Prod.mk.injEq, List.not_mem_nil, or_false] at hK
          omega
        · rw [e46 i q4]; exact m1 46 lo hi i hK
      · rw [eK K i q q3]; exact m1 K lo hi i hK
  · rw [eK 8 k (by decide) (by decide)]; exact m2 k lo hi hk
  · rw [eK 64 i (by decide) (by decide)]; exact m3 i
  · have s : SL F c' := by
      by_cases q : c' = c
      · rw [q]; exact hs
      · exact m4 c' h72 q
    unfold SL at s ⊢
    rw [eK 47 c' (by decide) (by decide), eK 48 c' (by decide) (by decide), eK 63 c' (by decide) (by decide), eK 55 c' (by decide) (by decide), eK 57 c' (by decide) (by decide), eK 24 c' (by decide) (by decide)]
    exact s
  · rcases mem o' k ho' hk with ⟨-, -, z⟩ | ⟨-, z⟩
    · rw [z, hvc]; omega
    · rw [z]
      have a := m1 46 0 71 (72 * o' + k) (by decide)
      have b := x_clamp a.1
      omega
  · rw [eK 47 _ (by decide) (by decide)]
    rcases mem o' k ho' hk with ⟨z1, z2, z⟩ | ⟨z1, z⟩
    · rw [z, hvc]
      refine ⟨hst, fun k' hk1 hk2 => ?_⟩
      rcases mem o' k' ho' hk2 with ⟨y1, y2, y⟩ | ⟨y1, y⟩
      · omega
      · subst z1; omega
    · rw [z]
      obtain ⟨b1, b2⟩ := m6 o' k ho' z1
      refine ⟨b1, fun k' hk1 hk2 => ?_⟩
      rcases mem o' k' ho' hk2 with ⟨y1, y2, y⟩ | ⟨y1, y⟩
      · rw [y]
        intro zz
        refine m5 o' k ho' z1 ?_
        rw [zz, hvc]
      · rw [y]
        exact b2 k' hk1 y1
theorem tv101 {h : xH} {Z : xO → xH → Prop} {F : xF} {e : Nat} {x1 x2 : Int32} (S : MS h) (g1 : 0 ≤ x1.toInt ∧ x1.toInt ≤ 71) (gV : VC x2.toInt) (M : MX e F)
    (hZ : ∀ (o : xO) (F' : xF), (MX e F' ∧ (∀ K i, K ≠ 36 → K ≠ 37 → K ≠ 38 → K ≠ 41 → K ≠ 63 → K ≠ 64 → F' K i = F K i) ∧ (F' 63 x1.toNatClampNeg).toInt ≤ (F 63 x1.toNatClampNeg).toInt ∧ (∀ k : Nat, (k : Int) < (F 63 x1.toNatClampNeg).toInt → F 64 (16 * x1.toNatClampNeg + k) = x2 → (F' 63 x1.toNatClampNeg).toInt < (F 63 x1.toNatClampNeg).toInt)) ∧ (o = .inl none) → Z o (mh h F')) : xC 300 101 [.inr (.inr (8, 1)), .inl x1, .inl x2] (mh h F) Z := by
  have c1 := x_clamp g1.1
  have r63 := M.rg (K := 63) (lo := 0) (hi := 16) (by decide) x1.toNatClampNeg
  refine ⟨rfl, S.2.2.1, S.2.2.2, ?_⟩
  show xR _ 101 0 ([.inr (.inr (8, 1)), .inl x1, .inl x2, .inr (.inr (0, 0)), .inr (.inr (0, 0))], [], mh h F) Z
  refine xR.blk c101_0 ?_
  refine q_aload rfl (by decide) (q_iload rfl (q_iconst ?_))
  refine q_callv (j := 1) rfl (by decide) ⟨Nat.le_refl 1, Nat.le_of_eq S.1.symm⟩ (Nat.le_of_ble_eq_true rfl) (Nat.le_of_ble_eq_true rfl) (by show x_ce h + 0 ≤ 0; rw [S.2.2.1]; exact Nat.le_refl 0) (by show x_so h + 0 ≤ 0; rw [S.2.2.2]; exact Nat.le_refl 0) ?_
  refine xC.up (tv99 (h := x_setc h 0 0) (F := F) (x1 := x2) (x2 := -1) S.set gV (fun o1 G hp => ?_)) (by omega)
  obtain ⟨⟨K9, i9, e9, hK9, -⟩, rfl⟩ := hp
  show x_seq _ _ _ _ ([.inr (.inr (8, 1)), .inl x1, .inl x2, .inr (.inr (0, 0)), .inr (.inr (0, 0))], [], mh h G)
  have MG : MX e G := by rw [e9]; exact M.give hK9 (by decide)
  have hG : ∀ K i, K ≠ 36 → K ≠ 37 → K ≠ 38 → K ≠ 41 → G K i = F K i := fun K i a b c d => by rw [e9, u2_ne (gv_ne hK9 a b c d)]
  refine v_iconst (k := 0) rfl (fun n0 en0 => q_istore (Nat.le_of_ble_eq_true rfl) (v_iconst (k := 0) rfl (fun k0 ek0 => q_istore (Nat.le_of_ble_eq_true rfl) (q_goto ?_))))
  have lp : ∀ (m : Nat) (n k : Int32) (H : xF), MX e H → (∀ K i, K ≠ 36 → K ≠ 37 → K ≠ 38 → K ≠ 41 → K ≠ 64 → H K i = F K i) → (∀ j : Nat, 16 * x1.toInt + n.toInt ≤ j → H 64 j = F 64 j) → (0 ≤ n.toInt ∧ n.toInt ≤ k.toInt ∧ k.toInt ≤ 16) → (k.toInt ≤ (F 63 x1.toNatClampNeg).toInt) → (∀ k0 : Nat, (k0 : Int) < k.toInt → F 64 (16 * x1.toNatClampNeg + k0) = x2 → n.toInt < k.toInt) → (16 - k.toInt).toNat < m → xR (10 + 8 * m) 101 11 ([.inr (.inr (8, 1)), .inl x1, .inl x2, .inl n, .inl k], [], mh h H) Z := by
    intro m
    induction m with
    | zero => intro n k H _ _ _ _ _ _ hm; exact absurd hm (by omega)
    | succ m ih =>
      intro n k H MH hH h64 hk hkt hcnt hm
      rw [show 10 + 8 * (m + 1) = 10 + 8 * m + 8 by omega]
      have e63 : H 63 x1.toNatClampNeg = F 63 x1.toNatClampNeg := hH 63 _ (by decide) (by decide) (by decide) (by decide) (by decide)
      refine xR.blk c101_11 ?_
      refine q_iload rfl (q_aload rfl (by decide) (m_gfr S (n := 72) (by decide) (q_iload rfl (m_ald (k := 45) (n := 72) S (by decide) (by omega) (by omega) ?_))))
      rw [e63]
      refine v_icmp_ge (fun d => ?_) (fun d => ?_)
      · refine xR.up (xR.blk (n := 5) c101_70 ?_) (by omega)
        refine q_aload rfl (by decide) (m_gfr S (n := 72) (by decide) (q_iload rfl (q_iload rfl (m_ast (k := 45) (n := 72) S (by decide) (by omega) (by omega) (q_ret (hZ _ _ ⟨⟨?_, ?_, ?_, ?_⟩, rfl⟩))))))
        · exact MH.putT (by rw [e63]; omega)
        · intro K i a b c d f g
          rw [u2_ne f]; exact hH K i a b c d g
        · rw [u2_eq]; omega
        · intro k0 hk0 hx
          rw [u2_eq]
          have := hcnt k0 (by omega) hx
          omega
      · refine q_aload rfl (by decide) (m_gfr S (n := 1152) (by decide) (v_iconst (k := 16) rfl (fun v1 e1 => q_iload rfl (v_imul' e1 (by omega) (fun v2 e2 => q_iload rfl (v_iadd (by omega) (fun v3 e3 => m_ald (k := 46) (n := 1152) S (by decide) (by omega) (by omega) ?_)))))))
        have c3 := x_clamp (n := v3) (by omega)
        have hld : H 64 v3.toNatClampNeg = F 64 v3.toNatClampNeg := h64 _ (by omega)
        have hix : v3.toNatClampNeg = 16 * x1.toNatClampNeg + k.toNatClampNeg := by have := x_clamp (n := k) (by omega); omega
        have ck := x_clamp (n := k) (by omega)
        refine q_iload rfl (q_icmp (fun d2 => ?_) (fun d2 => ?_))
        · refine xR.up (xR.blk (n := 10 + 8 * m) c101_64 (v_iinc (k := 1) rfl rfl (by omega) (by omega) (fun k2 ek2 => q_goto ?_))) (by omega)
          refine ih n k2 H MH hH h64 (by omega) (by omega) (fun k0 _ _ => by omega) (by omega)
        · refine q_aload rfl (by decide) (m_gfr S (n := 1152) (by decide) (v_iconst (k := 16) rfl (fun w1 f1 => q_iload rfl (v_imul' f1 (by omega) (fun w2 f2 => q_iload rfl (v_iadd (by omega) (fun w3 f3 => ?_)))))))
          refine q_aload rfl (by decide) (m_gfr S (n := 1152) (by decide) (v_iconst (k := 16) rfl (fun u1 g1' => q_iload rfl (v_imul' g1' (by omega) (fun u2 g2 => q_iload rfl (v_iadd (by omega) (fun u3 g3 => m_ald (k := 46) (n := 1152) S (by decide) (by omega) (by omega) ?_)))))))
          refine m_ast (k := 46) (n := 1152) S (by decide) (by omega) (by omega) ?_
          have cw := x_clamp (n := w3) (by omega)
          refine v_iinc (k := 1) rfl rfl (by omega) (by omega) (fun n2 en2 => q_goto ?_)
          refine xR.up (xR.blk (n := 10 + 8 * m) c101_64 (v_iinc (k := 1) rfl rfl (by omega) (by omega) (fun k2 ek2 => q_goto ?_))) (by omega)
          refine ih n2 k2 _ (MX.put MH (fun lo hi hm => by simp [mrl] at hm) (by decide) (fun _ => MH.vc _) (Or.inl rfl)) ?_ ?_ (by omega) (by omega) ?_ (by omega)
          · intro K i a b c d f
            rw [u2_ne f]; exact hH K i a b c d f
          · intro j hj
            rw [u2_ni (by omega)]
            exact h64 j (by omega)
          · intro k0 hk0 hx
            have hne : k0 ≠ k.toNatClampNeg := by
              rintro rfl
              refine d2 ?_
              rw [hld, hix]
              exact hx
            have := hcnt k0 (by omega) hx
            omega
  refine (lp 17 n0 k0 G MG (fun K i a b c d _ => hG K i a b c d) (fun j _ => hG 64 j (by decide) (by decide) (by decide) (by decide)) (by omega) (by omega) (fun k hk _ => by omega) (by omega)).up (by omega)
/-- the jobs of office o with those of c left out, half way -/
def fl_I (F H : xF) (o c n k : Nat) : Prop := (∀ K i, K ≠ 46 → H K i = F K i) ∧ (∀ j : Nat, ¬ (72 * o ≤ j ∧ j < 72 * o + n) → H 46 j = F 46 j) ∧ (∀ j, 0 ≤ (H 46 j).toInt ∧ (H 46 j).toInt ≤ 71) ∧ ∃ f : Nat → Nat, (∀ i, i < n → f i < k ∧ H 46 (72 * o + i) = F 46 (72 * o + f i) ∧ (F 46 (72 * o + f i)).toNatClampNeg ≠ c) ∧ ∀ i i', i < i' → i' < n → f i < f i'
theorem fl_I.skip {F H : xF} {o c n k : Nat} (q : fl_I F H o c n k) : fl_I F H o c n (k + 1) := by
  obtain ⟨q1, q2, q3, f, q4, q5⟩ := q
  exact ⟨q1, q2, q3, f, fun i hi => ⟨by have := (q4 i hi).1; omega, (q4 i hi).2⟩, q5⟩
theorem fl_I.take {F H : xF} {o c n k : Nat} (q : fl_I F H o c n k) (hnk : n ≤ k) (hne : (H 46 (72 * o + k)).toNatClampNeg ≠ c) : fl_I F (x_u2 H 46 (72 * o + n) (H 46 (72 * o + k))) o c (n + 1) (k + 1) := by
  obtain ⟨q1, q2, q3, f, q4, q5⟩ := q
  have hk : H 46 (72 * o + k) = F 46 (72 * o + k) := q2 _ (by omega)
  refine ⟨fun K i hK => by rw [u2_ne hK]; exact q1 K i hK, fun j hj => ?_, fun j => ?_, fun i => if i = n then k else f i, fun i hi => ?_, fun i i' h1 h2 => ?_⟩
  · rw [u2_ni (by omega)]; exact q2 j (by omega)
  · unfold x_u2
    by_cases z : 46 = 46 ∧ j = 72 * o + n
    · rw [if_pos z]; exact q3 _
    · rw [if_neg z]; exact q3 _
  · by_cases z : i = n
    · subst z
      dsimp only
      rw [u2_eq, if_pos rfl]
      exact ⟨by omega, hk, by rw [← hk]; exact hne⟩
    · dsimp only
      rw [u2_ni (by omega), if_neg z]
      have := q4 i (by omega)
      exact ⟨by omega, this.2⟩
  · show (if i = n then k else f i) < (if i' = n then k else f i')
    rw [if_neg (by omega)]
    by_cases z : i' = n
    · rw [if_pos z]; exact (q4 i (by omega)).1
    · rw [if_neg z]; exact q5 i i' h1 (by omega)
theorem tv102 {h : xH} {Z : xO → xH → Prop} {F : xF} {e : Nat} {x1 : Int32} (S : MS h) (g1 : 0 ≤ x1.toInt ∧ x1.toInt ≤ 71) (M : MX e F)
    (hZ : ∀ (o : xO) (F' : xF), (MX e F' ∧ NJ F' x1.toNatClampNeg ∧ (∀ K i, K ≠ 45 → K ≠ 46 → F' K i = F K i)) ∧ (o = .inl none) → Z o (mh h F')) : xC 3300 102 [.inr (.inr (8, 1)), .inl x1] (mh h F) Z := by
  have c1 := x_clamp g1.1
  refine ⟨rfl, S.2.2.1, S.2.2.2, ?_⟩
  show xR _ 102 0 ([.inr (.inr (8, 1)), .inl x1, .inr (.inr (0, 0)), .inr (.inr (0, 0)), .inr (.inr (0, 0))], [], mh h F) Z
  refine xR.blk c102_0 ?_
  refine v_iconst (k := 0) rfl (fun o0 eo0 => q_istore (Nat.le_of_ble_eq_true rfl) (q_goto ?_))
  have lp : ∀ (m : Nat) (o : Int32) (a b : xV) (H : xF), MX e H → (∀ K i, K ≠ 45 → K ≠ 46 → H K i = F K i) → (0 ≤ o.toInt ∧ o.toInt ≤ 3) → (∀ o' k : Nat, (o' : Int) < o.toInt → (k : Int) < (H 45 o').toInt → (H 46 (72 * o' + k)).toNatClampNeg ≠ x1.toNatClampNeg) → (3 - o.toInt).toNat < m → xR (10 + 800 * m) 102 2 ([.inr (.inr (8, 1)), .inl x1, .inl o, a, b], [], mh h H) Z := by
    intro m
    induction m with
    | zero => intro o a b H _ _ _ _ hm; exact absurd hm (by omega)
    | succ m ih =>
      intro o a b H MH hH ho hN hm
      rw [show 10 + 800 * (m + 1) = 10 + 800 * m + 800 by omega]
      refine xR.blk c102_2 ?_
      refine q_iload rfl (v_iconst (k := 3) rfl (fun v1 e1 => v_icmp_ge (fun d => ?_) (fun d => ?_)))
      · refine xR.up (xR.blk (n := 5) c102_84 (q_ret (hZ _ _ ⟨⟨MH, fun o' k ho' hk => hN o' k (by omega) hk, hH⟩, rfl⟩))) (by omega)
      · refine v_iconst (k := 0) rfl (fun n0 en0 => q_istore (Nat.le_of_ble_eq_true rfl) (v_iconst (k := 0) rfl (fun k0 ek0 => q_istore (Nat.le_of_ble_eq_true rfl) (q_goto ?_))))
        have co := x_clamp ho.1
        have ro := MH.rg (K := 45) (lo := 0) (hi := 72) (by decide) o.toNatClampNeg
        have li : ∀ (w : Nat) (n k : Int32) (G : xF), (0 ≤ n.toInt ∧ n.toInt ≤ k.toInt ∧ k.toInt ≤ (H 45 o.toNatClampNeg).toInt) → fl_I H G o.toNatClampNeg x1.toNatClampNeg n.toNatClampNeg k.toNatClampNeg → ((H 45 o.toNatClampNeg).toInt - k.toInt).toNat < w → xR (10 + 800 * m + 20 + 8 * w) 102 12 ([.inr (.inr (8, 1)), .inl x1, .inl o, .inl n, .inl k], [], mh h G) Z := by
          intro w
          induction w with
          | zero => intro n k G _ _ hw; exact absurd hw (by omega)
          | succ w ihw =>
            intro n k G hnk hI hw
            rw [show 10 + 800 * m + 20 + 8 * (w + 1) = 10 + 800 * m + 20 + 8 * w + 8 by omega]
            have cn := x_clamp (n := n) (by omega)
            have ck := x_clamp (n := k) (by omega)
            have e45 : G 45 o.toNatClampNeg = H 45 o.toNatClampNeg := hI.1 45 _ (by decide)
            refine xR.blk c102_12 ?_
            refine q_iload rfl (q_aload rfl (by decide) (m_gfr S (n := 3) (by decide) (q_iload rfl (m_ald (k := 27) (n := 3) S (by decide) (by omega) (by omega) ?_))))
            rw [e45]
            refine v_icmp_ge (fun d2 => ?_) (fun d2 => ?_)
            · refine xR.up (xR.blk (n := 10 + 800 * m) c102_71 ?_) (by omega)
              refine q_aload rfl (by decide) (m_gfr S (n := 3) (by decide) (q_iload rfl (q_iload rfl (m_ast (k := 27) (n := 3) S (by decide) (by omega) (by omega) ?_))))
              refine v_iinc (k := 1) rfl rfl (by omega) (by omega) (fun o2 eo2 => q_goto ?_)
              obtain ⟨q1, q2, q3, f, q4, q5⟩ := hI
              have eo : x_u2 G 45 o.toNatClampNeg n 45 o.toNatClampNeg = n := u2_eq
              have e46 : ∀ j, x_u2 G 45 o.toNatClampNeg n 46 j = G 46 j := fun j => rfl
              have eno : ∀ i, i ≠ o.toNatClampNeg → x_u2 G 45 o.toNatClampNeg n 45 i = H 45 i := fun i hi => by rw [u2_ni hi]; exact q1 45 i (by decide)
              have eK : ∀ K i, K ≠ 45 → K ≠ 46 → x_u2 G 45 o.toNatClampNeg n K i = H K i := fun K i a b => by rw [u2_ne a]; exact q1 K i b
              refine ih o2 _ _ _ (MX.filt (o := o.toNatClampNeg) (n := n.toNatClampNeg) MH (by omega) eK eno (fun j hj => q2 j (by omega)) q3 (by rw [eo]; omega) (by omega) f (fun i hi => ?_) q5) (fun K i a b => by rw [eK K i a b]; exact hH K i a b) (by omega) ?_ (by omega)
              · have := q4 i hi
                exact ⟨by omega, this.2.1⟩
              · intro o' k' ho' hk'
                by_cases z : o' = o.toNatClampNeg
                · subst z
                  rw [eo] at hk'
                  have := q4 k' (by omega)
                  rw [e46, this.2.1]
                  exact this.2.2
                · rw [eno o' z] at hk'
                  have r2 := MH.rg (K := 45) (lo := 0) (hi := 72) (by decide) o'
                  rw [e46, q2 _ (by omega)]
                  exact hN o' k' (by omega) hk'
            · refine q_aload rfl (by decide) (m_gfr S (n := 216) (by decide) (v_iconst (k := 72) rfl (fun v1 e1 => q_iload rfl (v_imul' e1 (by omega) (fun v2 e2 => q_iload rfl (v_iadd (by omega) (fun v3 e3 => m_ald (k := 28) (n := 216) S (by decide) (by omega) (by omega) ?_)))))))
              have c3 := x_clamp (n := v3) (by omega)
              have hix : v3.toNatClampNeg = 72 * o.toNatClampNeg + k.toNatClampNeg := by omega
              have r46 := hI.2.2.1 v3.toNatClampNeg
              have c46 := x_clamp r46.1
              refine q_iload rfl (v_icmp_eq (fun d3 => ?_) (fun d3 => ?_))
              · refine xR.up (xR.blk (n := 10 + 800 * m + 20 + 8 * w) c102_65 (v_iinc (k := 1) rfl rfl (by omega) (by omega) (fun k2 ek2 => q_goto ?_))) (by omega)
                have ck2 := x_clamp (n := k2) (by omega)
                refine ihw n k2 G (by omega) ?_ (by omega)
                rw [show k2.toNatClampNeg = k.toNatClampNeg + 1 by omega]
                exact hI.skip
              · refine q_aload rfl (by decide) (m_gfr S (n := 216) (by decide) (v_iconst (k := 72) rfl (fun w1 f1 => q_iload rfl (v_imul' f1 (by omega) (fun w2 f2 => q_iload rfl (v_iadd (by omega) (fun w3 f3 => ?_)))))))
                refine q_aload rfl (by decide) (m_gfr S (n := 216) (by decide) (v_iconst (k := 72) rfl (fun u1 g1' => q_iload rfl (v_imul' g1' (by omega) (fun u2 g2 => q_iload rfl (v_iadd (by omega) (fun u3 g3 => m_ald (k := 28) (n := 216) S (by decide) (by omega) (by omega) ?_)))))))
                refine m_ast (k := 28) (n := 216) S (by decide) (by omega) (by omega) ?_
                have cw := x_clamp (n := w3) (by omega)
                have cu := x_clamp (n := u3) (by omega)
                refine v_iinc (k := 1) rfl rfl (by omega) (by omega) (fun n2 en2 => q_goto ?_)
                refine xR.up (xR.blk (n := 10 + 800 * m + 20 + 8 * w) c102_65 (v_iinc (k := 1) rfl rfl (by omega) (by omega) (fun k2 ek2 => q_goto ?_))) (by omega)
                have ck2 := x_clamp (n := k2) (by omega)
                have cn2 := x_clamp (n := n2) (by omega)
                refine ihw n2 k2 _ (by omega) ?_ (by omega)
                rw [show k2.toNatClampNeg = k.toNatClampNeg + 1 by omega, show n2.toNatClampNeg = n.toNatClampNeg + 1 by omega, show w3.toNatClampNeg = 72 * o.toNatClampNeg + n.toNatClampNeg by omega, show u3.toNatClampNeg = 72 * o.toNatClampNeg + k.toNatClampNeg by omega]
                refine hI.take (by omega) ?_
                rw [← hix]
                omega
        have cn0 := x_clamp (n := n0) (by omega)
        have ck0 := x_clamp (n := k0) (by omega)
        refine (li 73 n0 k0 H (by omega) ⟨fun _ _ _ => rfl, fun _ _ => rfl, fun j => MH.rg (by decide) j, id, fun i hi => by omega, fun i i' _ hi => by omega⟩ (by omega)).up (by omega)
  exact (lp 4 o0 _ _ F M (fun _ _ _ _ => rfl) (by omega) (fun o' k ho' _ => by omega) (by omega)).up (by omega)
theorem tv100 {h : xH} {Z : xO → xH → Prop} {F : xF} {x1 : Int32} {x2 : Int32} (S : MS h) (g1 : 0 ≤ x1.toInt ∧ x1.toInt ≤ 71) (gV : VC x2.toInt) (gT : 0 ≤ (F 63 x1.toNatClampNeg).toInt ∧ (F 63 x1.toNatClampNeg).toInt ≤ 15) (hZ : ∀ (o : xO) (F' : xF), (∃ w j K i, F' = x_u2 (x_u2 (x_u2 F 64 j x2) 63 x1.toNatClampNeg w) K i x1 ∧ w.toInt = (F 63 x1.toNatClampNeg).toInt + 1 ∧ (K = 36 ∨ K = 37 ∨ K = 38 ∨ K = 41) ∧ (x2.toInt < 5000 ∧ 30 ≤ x2.toInt % 1000 → K = 38 ∧ (i : Int) = 3 * (x2.toInt / 1000) + x2.toInt % 1000 - 30)) ∧ (o = .inl none) → Z o (mh h F')) : xC 40 100 [.inr (.inr (8, 1)), .inl x1, .inl x2] (mh h F) Z := by
  refine ⟨rfl, S.2.2.1, S.2.2.2, ?_⟩
  show xR _ 100 0 ([.inr (.inr (8, 1)), .inl x1, .inl x2], [], mh h F) Z
  refine xR.blk c100_0 ?_
  refine q_aload rfl (by decide) ?_
  refine m_gfr S (n := 1152) (by decide) ?_
  refine v_iconst (k := 16) rfl (fun v1 e2 => ?_)
  refine q_iload rfl ?_
  refine v_imul' e2 (by omega) (fun v3 e4 => ?_)
  refine q_aload rfl (by decide) ?_
  refine m_gfr S (n := 72) (by decide) ?_
  refine q_iload rfl ?_
  refine m_ald (k := 45) (n := 72) S (by decide) (by omega) (by omega) ?_
  refine v_iadd (by omega) (fun v5 e6 => ?_)
  refine q_iload rfl ?_
  refine m_ast (k := 46) (n := 1152) S (by decide) (by omega) (by omega) ?_
  show x_seq _ _ _ _ ([.inr (.inr (8, 1)), .inl x1, .inl x2], [], mh h (x_u2 F 64 v5.toNatClampNeg x2))
  refine q_aload rfl (by decide) ?_
  refine m_gfr S (n := 72) (by decide) ?_
  refine q_iload rfl ?_
  refine q_dup2 rfl rfl ?_
  refine m_ald (k := 45) (n := 72) S (by decide) (by omega) (by omega) ?_
  show x_seq _ _ _ _ ([.inr (.inr (8, 1)), .inl x1, .inl x2], [.inl (F 63 x1.toNatClampNeg), .inl x1, .inr (.inr (63, 1))], mh h (x_u2 F 64 v5.toNatClampNeg x2))
  refine v_iconst (k := 1) rfl (fun v7 e8 => ?_)
  refine v_iadd (by omega) (fun v9 e10 => ?_)
  refine m_ast (k := 45) (n := 72) S (by decide) (by omega) (by omega) ?_
  show x_seq _ _ _ _ ([.inr (.inr (8, 1)), .inl x1, .inl x2], [], mh h (x_u2 (x_u2 F 64 v5.toNatClampNeg x2) 63 x1.toNatClampNeg v9))
  refine q_aload rfl (by decide) ?_
  refine q_iload rfl ?_
  refine q_iload rfl ?_
  refine q_callv (j := 1) rfl (by decide) ⟨Nat.le_refl 1, Nat.le_of_eq S.1.symm⟩ (Nat.le_of_ble_eq_true rfl) (Nat.le_of_ble_eq_true rfl) (by show x_ce h + 0 ≤ 0; rw [S.2.2.1]; exact Nat.le_refl 0) (by show x_so h + 0 ≤ 0; rw [S.2.2.2]; exact Nat.le_refl 0) ?_
  refine xC.up (tv99 (h := x_setc h 0 0) (F := (x_u2 (x_u2 F 64 v5.toNatClampNeg x2) 63 x1.toNatClampNeg v9)) (x1 := x2) (x2 := x1) S.set (by omega) (fun o11 F12 hp => ?_)) (by omega)
  obtain ⟨q15, rfl⟩ := hp
  obtain ⟨K9, i9, e9, hK9, hR9⟩ := q15
  show x_seq _ _ _ _ ([.inr (.inr (8, 1)), .inl x1, .inl x2], [], mh h F12)
  exact q_ret (hZ _ _ ⟨⟨v9, _, K9, i9, e9, by omega, hK9, hR9⟩, rfl⟩)
