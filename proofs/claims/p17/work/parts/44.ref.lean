theorem FR.rel {F F' : xF} (q : ∀ K i, K ≠ 36 → K ≠ 37 → K ≠ 38 → K ≠ 41 → K ≠ 63 → K ≠ 64 → F' K i = F K i) : FR F F' := by
  intro K i hm
  refine q K i ?_ ?_ ?_ ?_ ?_ ?_ <;> (rintro rfl; simp [mfr] at hm)
theorem FR.job {F F' : xF} (q : ∀ K i, K ≠ 45 → K ≠ 46 → F' K i = F K i) : FR F F' := by
  intro K i hm
  refine q K i ?_ ?_ <;> (rintro rfl; simp [mfr] at hm)
theorem FR.way {F F' : xF} (q : ∀ K i, K ≠ 8 → F' K i = F K i) (q0 : F' 8 0 = F 8 0) (q20 : F' 8 20 = F 8 20) : FR F F' := by
  intro K i hm
  by_cases e : K = 8
  · subst e
    have : i = 0 ∨ i = 20 := by
      simp [mfr] at hm
      exact hm
    rcases this with rfl | rfl
    · exact q0
    · exact q20
  · exact q K i e
theorem MX.putW {e i : Nat} {F : xF} {v : Int32} (M : MX e F) (hv : v.toInt < 0) : MX e (x_u2 F 24 i v) := by
  obtain ⟨m1, m2, m3, m4, m5, m6⟩ := M
  refine ⟨fun K' lo hi i' hm => ?_, m2, m3, fun c' h72 hc => ?_, m5, m6⟩
  · rw [u2_ne]
    · exact m1 K' lo hi i' hm
    · rintro rfl
      simp [mrl] at hm
  · have s := m4 c' h72 hc
    unfold SL at s ⊢
    refine ⟨s.1, s.2.1, s.2.2.1, fun z => ?_⟩
    show (F 47 c').toInt = 0
    unfold x_u2 at z
    by_cases q : 24 = 24 ∧ c' = i
    · rw [if_pos q] at z; omega
    · rw [if_neg q] at z; exact s.2.2.2 z
theorem m_shl' {v x : Int32} (hv : v.toInt = 1) (h : 0 ≤ x.toInt ∧ x.toInt ≤ 2) : (0 ≤ (v <<< (x &&& 31)).toInt ∧ (v <<< (x &&& 31)).toInt ≤ 7) ∧ mpop (v <<< (x &&& 31)).toInt = 1 := by
  obtain rfl : v = 1 := i32_eq.mpr hv
  exact m_shl h
theorem m_or' {v x u w : Int32} (hu : u.toInt = 1) (hw : w.toInt = 1) (hv : 0 ≤ v.toInt ∧ v.toInt ≤ 7) (h : 0 ≤ x.toInt ∧ x.toInt ≤ 2) (hn : ¬ ((v >>> (x &&& 31)) &&& u).toInt = 1) : (0 ≤ (v ||| (w <<< (x &&& 31))).toInt ∧ (v ||| (w <<< (x &&& 31))).toInt ≤ 7) ∧ mpop (v ||| (w <<< (x &&& 31))).toInt = mpop v.toInt + 1 := by
  obtain rfl : u = 1 := i32_eq.mpr hu
  obtain rfl : w = 1 := i32_eq.mpr hw
  exact m_or hv h hn
theorem tv103 {h : xH} {Z : xO → xH → Prop} {F : xF} {x1 : Int32} {x2 : Int32} (S : MS h) (g1 : 0 ≤ x1.toInt ∧ x1.toInt ≤ 71) (g2 : 0 ≤ x2.toInt ∧ x2.toInt ≤ 2) (M : MX x1.toNatClampNeg F) (gT : (F 63 x1.toNatClampNeg).toInt ≤ 3 * mpop (F 55 x1.toNatClampNeg).toInt - 2) (gW : (F 24 x1.toNatClampNeg).toInt < 0) (hZ : ∀ (o : xO) (F' : xF), (MX 72 F' ∧ FR F F') ∧ (o = .inl none) → Z o (mh h F')) : xC 20 103 [.inr (.inr (8, 1)), .inl x1, .inl x2] (mh h F) Z := by
  refine ⟨rfl, S.2.2.1, S.2.2.2, ?_⟩
  have c1 := x_clamp g1.1
  have c2 := x_clamp g2.1
  have hroom := M.room (o := x2.toNatClampNeg) (by omega) (by omega)
  show xR _ 103 0 ([.inr (.inr (8, 1)), .inl x1, .inl x2], [], mh h F) Z
  refine xR.blk c103_0 ?_
  refine q_aload rfl (by decide) ?_
  refine m_gfr S (n := 72) (by decide) ?_
  refine q_iload rfl ?_
  refine v_iconst (k := 2) rfl (fun v1 e2 => ?_)
  refine m_ast (k := 29) (n := 72) S (by decide) (by omega) (by omega) ?_
  show x_seq _ _ _ _ ([.inr (.inr (8, 1)), .inl x1, .inl x2], [], mh h (x_u2 F 47 x1.toNatClampNeg v1))
  refine q_aload rfl (by decide) ?_
  refine m_gfr S (n := 72) (by decide) ?_
  refine q_iload rfl ?_
  refine q_iload rfl ?_
  refine m_ast (k := 32) (n := 72) S (by decide) (by omega) (by omega) ?_
  show x_seq _ _ _ _ ([.inr (.inr (8, 1)), .inl x1, .inl x2], [], mh h (x_u2 (x_u2 F 47 x1.toNatClampNeg v1) 50 x1.toNatClampNeg x2))
  refine q_aload rfl (by decide) ?_
  refine m_gfr S (n := 72) (by decide) ?_
  refine q_iload rfl ?_
  refine q_aload rfl (by decide) ?_
  refine m_gfi S ?_
  show x_seq _ _ _ _ ([.inr (.inr (8, 1)), .inl x1, .inl x2], [.inl (F 8 1), .inl x1, .inr (.inr (59, 1))], mh h (x_u2 (x_u2 F 47 x1.toNatClampNeg v1) 50 x1.toNatClampNeg x2))
  refine m_ast (k := 41) (n := 72) S (by decide) (by omega) (by omega) ?_
  show x_seq _ _ _ _ ([.inr (.inr (8, 1)), .inl x1, .inl x2], [], mh h (x_u2 (x_u2 (x_u2 F 47 x1.toNatClampNeg v1) 50 x1.toNatClampNeg x2) 59 x1.toNatClampNeg (F 8 1)))
  refine q_aload rfl (by decide) ?_
  refine m_gfr S (n := 216) (by decide) ?_
  refine v_iconst (k := 72) rfl (fun v3 e4 => ?_)
  refine q_iload rfl ?_
  refine v_imul' e4 (by omega) (fun v5 e6 => ?_)
  refine q_aload rfl (by decide) ?_
  refine m_gfr S (n := 3) (by decide) ?_
  refine q_iload rfl ?_
  refine m_ald (k := 27) (n := 3) S (by decide) (by omega) (by omega) ?_
  have e7 : 0 ≤ (F 45 x2.toNatClampNeg).toInt ∧ (F 45 x2.toNatClampNeg).toInt ≤ 72 := M.rg (lo := 0) (hi := 72) (by decide) _
  show x_seq _ _ _ _ ([.inr (.inr (8, 1)), .inl x1, .inl x2], [.inl (F 45 x2.toNatClampNeg), .inl v5, .inr (.inr (46, 1))], mh h (x_u2 (x_u2 (x_u2 F 47 x1.toNatClampNeg v1) 50 x1.toNatClampNeg x2) 59 x1.toNatClampNeg (F 8 1)))
  refine v_iadd (by omega) (fun v8 e9 => ?_)
  refine q_iload rfl ?_
  refine m_ast (k := 28) (n := 216) S (by decide) (by omega) (by omega) ?_
  show x_seq _ _ _ _ ([.inr (.inr (8, 1)), .inl x1, .inl x2], [], mh h (x_u2 (x_u2 (x_u2 (x_u2 F 47 x1.toNatClampNeg v1) 50 x1.toNatClampNeg x2) 59 x1.toNatClampNeg (F 8 1)) 46 v8.toNatClampNeg x1))
  refine q_aload rfl (by decide) ?_
  refine m_gfr S (n := 3) (by decide) ?_
  refine q_iload rfl ?_
  refine q_dup2 rfl rfl ?_
  refine m_ald (k := 27) (n := 3) S (by decide) (by omega) (by omega) ?_
  have e10 : 0 ≤ (F 45 x2.toNatClampNeg).toInt ∧ (F 45 x2.toNatClampNeg).toInt ≤ 72 := M.rg (lo := 0) (hi := 72) (by decide) _
  show x_seq _ _ _ _ ([.inr (.inr (8, 1)), .inl x1, .inl x2], [.inl (F 45 x2.toNatClampNeg), .inl x2, .inr (.inr (45, 1))], mh h (x_u2 (x_u2 (x_u2 (x_u2 F 47 x1.toNatClampNeg v1) 50 x1.toNatClampNeg x2) 59 x1.toNatClampNeg (F 8 1)) 46 v8.toNatClampNeg x1))
  refine v_iconst (k := 1) rfl (fun v11 e12 => ?_)
  refine v_iadd (by omega) (fun v13 e14 => ?_)
  refine m_ast (k := 27) (n := 3) S (by decide) (by omega) (by omega) ?_
  show x_seq _ _ _ _ ([.inr (.inr (8, 1)), .inl x1, .inl x2], [], mh h (x_u2 (x_u2 (x_u2 (x_u2 (x_u2 F 47 x1.toNatClampNeg v1) 50 x1.toNatClampNeg x2) 59 x1.toNatClampNeg (F 8 1)) 46 v8.toNatClampNeg x1) 45 x2.toNatClampNeg v13))
  exact q_ret (hZ _ _ ⟨⟨(by rw [show v8.toNatClampNeg = 72 * x2.toNatClampNeg + (F 45 x2.toNatClampNeg).toInt.toNat by have c9 := x_clamp (n := v8) (by omega); omega]; exact MX.addJ (F := (x_u2 (x_u2 (x_u2 F 47 x1.toNatClampNeg v1) 50 x1.toNatClampNeg x2) 59 x1.toNatClampNeg (F 8 1))) (c := x1.toNatClampNeg) (o := x2.toNatClampNeg) (MX.put (K := 59) (i := x1.toNatClampNeg) (v := (F 8 1)) (MX.put (K := 50) (i := x1.toNatClampNeg) (v := x2) (MX.put (K := 47) (i := x1.toNatClampNeg) (v := v1) M (fun lo hi hm => by simp only [mrl, List.mem_cons, Prod.mk.injEq, List.not_mem_nil, or_false] at hm; omega) (by decide) (fun z => absurd z (by decide)) (Or.inr rfl)) (fun lo hi hm => by simp only [mrl, List.mem_cons, Prod.mk.injEq, List.not_mem_nil, or_false] at hm; omega) (by decide) (fun z => absurd z (by decide)) (Or.inl rfl)) (fun lo hi hm => by simp only [mrl, List.mem_cons, Prod.mk.injEq, List.not_mem_nil, or_false] at hm; omega) (by decide) (fun z => absurd z (by decide)) (Or.inl rfl)) (by omega) (by omega) (by rw [show (x_u2 (x_u2 (x_u2 F 47 x1.toNatClampNeg v1) 50 x1.toNatClampNeg x2) 59 x1.toNatClampNeg (F 8 1)) 47 x1.toNatClampNeg = v1 from (by rw [u2_ne (by decide), u2_ne (by decide), u2_eq])]; omega) (by unfold SL; rw [show (x_u2 (x_u2 (x_u2 F 47 x1.toNatClampNeg v1) 50 x1.toNatClampNeg x2) 59 x1.toNatClampNeg (F 8 1)) 47 x1.toNatClampNeg = v1 from (by rw [u2_ne (by decide), u2_ne (by decide), u2_eq]), show (x_u2 (x_u2 (x_u2 F 47 x1.toNatClampNeg v1) 50 x1.toNatClampNeg x2) 59 x1.toNatClampNeg (F 8 1)) 48 x1.toNatClampNeg = (F 48 x1.toNatClampNeg) from (by rw [u2_ne (by decide), u2_ne (by decide), u2_ne (by decide)]), show (x_u2 (x_u2 (x_u2 F 47 x1.toNatClampNeg v1) 50 x1.toNatClampNeg x2) 59 x1.toNatClampNeg (F 8 1)) 63 x1.toNatClampNeg = (F 63 x1.toNatClampNeg) from (by rw [u2_ne (by decide), u2_ne (by decide), u2_ne (by decide)]), show (x_u2 (x_u2 (x_u2 F 47 x1.toNatClampNeg v1) 50 x1.toNatClampNeg x2) 59 x1.toNatClampNeg (F 8 1)) 55 x1.toNatClampNeg = (F 55 x1.toNatClampNeg) from (by rw [u2_ne (by decide), u2_ne (by decide), u2_ne (by decide)]), show (x_u2 (x_u2 (x_u2 F 47 x1.toNatClampNeg v1) 50 x1.toNatClampNeg x2) 59 x1.toNatClampNeg (F 8 1)) 57 x1.toNatClampNeg = (F 57 x1.toNatClampNeg) from (by rw [u2_ne (by decide), u2_ne (by decide), u2_ne (by decide)]), show (x_u2 (x_u2 (x_u2 F 47 x1.toNatClampNeg v1) 50 x1.toNatClampNeg x2) 59 x1.toNatClampNeg (F 8 1)) 24 x1.toNatClampNeg = (F 24 x1.toNatClampNeg) from (by rw [u2_ne (by decide), u2_ne (by decide), u2_ne (by decide)])]; exact ⟨fun z => by omega, fun z => by omega, fun z => by omega, fun z => by omega⟩) (by omega) (by show v13.toInt = (F 45 x2.toNatClampNeg).toInt + 1; omega) hroom), (FR.put (K := 45) (i := x2.toNatClampNeg) (v := v13) (FR.put (K := 46) (i := v8.toNatClampNeg) (v := x1) (FR.put (K := 59) (i := x1.toNatClampNeg) (v := (F 8 1)) (FR.put (K := 50) (i := x1.toNatClampNeg) (v := x2) (FR.put (K := 47) (i := x1.toNatClampNeg) (v := v1) FR.rfl' rfl) rfl) rfl) rfl) rfl)⟩, rfl⟩)
theorem tv104 {h : xH} {Z : xO → xH → Prop} {F : xF} {e : Nat} {x1 : Int32} (S : MS h) (g1 : 0 ≤ x1.toInt ∧ x1.toInt ≤ 71) (M : MX e F) (he : e = x1.toNatClampNeg ∨ e = 72) (hZ : ∀ (o : xO) (F' : xF), (MX 72 F' ∧ FR F F' ∧ (F' 47 x1.toNatClampNeg).toInt = 0) ∧ (o = .inl none) → Z o (mh h F')) : xC 11000 104 [.inr (.inr (8, 1)), .inl x1] (mh h F) Z := by
  refine ⟨rfl, S.2.2.1, S.2.2.2, ?_⟩
  have c1 := x_clamp g1.1
  have r63 := M.rg (K := 63) (lo := 0) (hi := 16) (by decide) x1.toNatClampNeg
  show xR _ 104 0 ([.inr (.inr (8, 1)), .inl x1], [], mh h F) Z
  have lp1 : ∀ (m2 : Nat) (F4 : xF), (MX e F4) → (∀ K i, K ≠ 36 → K ≠ 37 → K ≠ 38 → K ≠ 41 → K ≠ 63 → K ≠ 64 → F4 K i = F K i) → (F4 63 x1.toNatClampNeg).toInt.toNat < m2 → xR (3500 + 400 * m2) 104 0 ([.inr (.inr (8, 1)), .inl x1], [], mh h F4) Z := by
    intro m2
    induction m2 with
    | zero => intro F4 klp1_0 klp1_1 kmlp1; exact absurd kmlp1 (by omega)
    | succ m2 ih3 =>
      intro F4 klp1_0 klp1_1 kmlp1
      rw [show 3500 + 400 * (m2 + 1) = 3500 + 400 * m2 + 400 by omega]
      refine xR.blk c104_0 ?_
      refine q_aload rfl (by decide) ?_
      refine m_gfr S (n := 72) (by decide) ?_
      refine q_iload rfl ?_
      refine m_ald (k := 45) (n := 72) S (by decide) (by omega) (by omega) ?_
      have e5 : 0 ≤ (F4 63 x1.toNatClampNeg).toInt ∧ (F4 63 x1.toNatClampNeg).toInt ≤ 16 := klp1_0.rg (lo := 0) (hi := 16) (by decide) _
      refine v_if_le (fun d6 => ?_) (fun d6 => ?_)
      · skip
        refine xR.blk c104_35 ?_
        refine q_aload rfl (by decide) ?_
        refine q_iload rfl ?_
        refine q_callv (j := 1) rfl (by decide) ⟨Nat.le_refl 1, Nat.le_of_eq S.1.symm⟩ (Nat.le_of_ble_eq_true rfl) (Nat.le_of_ble_eq_true rfl) (by show x_ce h + 0 ≤ 0; rw [S.2.2.1]; exact Nat.le_refl 0) (by show x_so h + 0 ≤ 0; rw [S.2.2.2]; exact Nat.le_refl 0) ?_
        refine xC.up (tv102 (h := x_setc h 0 0) (F := F4) (x1 := x1) (e := e) S.set (by omega) klp1_0 (fun o7 F8 hp => ?_)) (by omega)
        obtain ⟨q11, rfl⟩ := hp
        show x_seq _ _ _ _ ([.inr (.inr (8, 1)), .inl x1], [], mh h F8)
        have M12 : MX x1.toNatClampNeg F8 := q11.1.opnJ he q11.2.1
        refine q_aload rfl (by decide) ?_
        refine m_gfr S (n := 72) (by decide) ?_
        refine q_iload rfl ?_
        refine v_iconst (k := 0) rfl (fun v13 e14 => ?_)
        refine m_ast (k := 29) (n := 72) S (by decide) (by omega) (by omega) ?_
        show x_seq _ _ _ _ ([.inr (.inr (8, 1)), .inl x1], [], mh h (x_u2 F8 47 x1.toNatClampNeg v13))
        refine q_aload rfl (by decide) ?_
        refine m_gfr S (n := 72) (by decide) ?_
        refine q_iload rfl ?_
        refine m_ald (k := 39) (n := 72) S (by decide) (by omega) (by omega) ?_
        have e15 : -1 ≤ (F8 57 x1.toNatClampNeg).toInt ∧ (F8 57 x1.toNatClampNeg).toInt ≤ 71 := M12.rg (lo := -1) (hi := 71) (by decide) _
        show x_seq _ _ _ _ ([.inr (.inr (8, 1)), .inl x1], [.inl (F8 57 x1.toNatClampNeg)], mh h (x_u2 F8 47 x1.toNatClampNeg v13))
        refine v_if_lt (fun d16 => ?_) (fun d16 => ?_)
        · skip
          refine xR.blk c104_68 ?_
          exact q_ret (hZ _ _ ⟨⟨(MX.close (MX.put (K := 47) (i := x1.toNatClampNeg) (v := v13) M12 (fun lo hi hm => by simp only [mrl, List.mem_cons, Prod.mk.injEq, List.not_mem_nil, or_false] at hm; omega) (by decide) (fun z => absurd z (by decide)) (Or.inr rfl)) (by unfold SL; rw [show (x_u2 F8 47 x1.toNatClampNeg v13) 47 x1.toNatClampNeg = v13 from (by rw [u2_eq]), show (x_u2 F8 47 x1.toNatClampNeg v13) 48 x1.toNatClampNeg = (F8 48 x1.toNatClampNeg) from (by rw [u2_ne (by decide)]), show (x_u2 F8 47 x1.toNatClampNeg v13) 63 x1.toNatClampNeg = (F8 63 x1.toNatClampNeg) from (by rw [u2_ne (by decide)]), show (x_u2 F8 47 x1.toNatClampNeg v13) 55 x1.toNatClampNeg = (F8 55 x1.toNatClampNeg) from (by rw [u2_ne (by decide)]), show (x_u2 F8 47 x1.toNatClampNeg v13) 57 x1.toNatClampNeg = (F8 57 x1.toNatClampNeg) from (by rw [u2_ne (by decide)]), show (x_u2 F8 47 x1.toNatClampNeg v13) 24 x1.toNatClampNeg = (F8 24 x1.toNatClampNeg) from (by rw [u2_ne (by decide)])]; exact ⟨fun z => by omega, fun z => by omega, fun z => by omega, fun z => by omega⟩)), (FR.put (K := 47) (i := x1.toNatClampNeg) (v := v13) (FR.trans (FR.rel klp1_1) (FR.job q11.2.2)) rfl), by rw [show (x_u2 F8 47 x1.toNatClampNeg v13) 47 x1.toNatClampNeg = v13 from (by rw [u2_eq])]; omega⟩, rfl⟩)
        · skip
          refine q_aload rfl (by decide) ?_
          refine m_gfr S (n := 72) (by decide) ?_
          refine q_aload rfl (by decide) ?_
          refine m_gfr S (n := 72) (by decide) ?_
          refine q_iload rfl ?_
          refine m_ald (k := 39) (n := 72) S (by decide) (by omega) (by omega) ?_
          have e17 : -1 ≤ (F8 57 x1.toNatClampNeg).toInt ∧ (F8 57 x1.toNatClampNeg).toInt ≤ 71 := M12.rg (lo := -1) (hi := 71) (by decide) _
          show x_seq _ _ _ _ ([.inr (.inr (8, 1)), .inl x1], [.inl (F8 57 x1.toNatClampNeg), .inr (.inr (28, 1))], mh h (x_u2 F8 47 x1.toNatClampNeg v13))
          refine v_iconst (k := -1) rfl (fun v18 e19 => ?_)
          refine m_ast (k := 9) (n := 72) S (by decide) (by omega) (by omega) ?_
          show x_seq _ _ _ _ ([.inr (.inr (8, 1)), .inl x1], [], mh h (x_u2 (x_u2 F8 47 x1.toNatClampNeg v13) 28 (F8 57 x1.toNatClampNeg).toNatClampNeg v18))
          refine q_goto ?_
          refine xR.blk c104_68 ?_
          exact q_ret (hZ _ _ ⟨⟨(MX.close (MX.put (K := 28) (i := (F8 57 x1.toNatClampNeg).toNatClampNeg) (v := v18) (MX.put (K := 47) (i := x1.toNatClampNeg) (v := v13) M12 (fun lo hi hm => by simp only [mrl, List.mem_cons, Prod.mk.injEq, List.not_mem_nil, or_false] at hm; omega) (by decide) (fun z => absurd z (by decide)) (Or.inr rfl)) (fun lo hi hm => by simp only [mrl, List.mem_cons, Prod.mk.injEq, List.not_mem_nil, or_false] at hm; omega) (by decide) (fun z => absurd z (by decide)) (Or.inl rfl)) (by unfold SL; rw [show (x_u2 (x_u2 F8 47 x1.toNatClampNeg v13) 28 (F8 57 x1.toNatClampNeg).toNatClampNeg v18) 47 x1.toNatClampNeg = v13 from (by rw [u2_ne (by decide), u2_eq]), show (x_u2 (x_u2 F8 47 x1.toNatClampNeg v13) 28 (F8 57 x1.toNatClampNeg).toNatClampNeg v18) 48 x1.toNatClampNeg = (F8 48 x1.toNatClampNeg) from (by rw [u2_ne (by decide), u2_ne (by decide)]), show (x_u2 (x_u2 F8 47 x1.toNatClampNeg v13) 28 (F8 57 x1.toNatClampNeg).toNatClampNeg v18) 63 x1.toNatClampNeg = (F8 63 x1.toNatClampNeg) from (by rw [u2_ne (by decide), u2_ne (by decide)]), show (x_u2 (x_u2 F8 47 x1.toNatClampNeg v13) 28 (F8 57 x1.toNatClampNeg).toNatClampNeg v18) 55 x1.toNatClampNeg = (F8 55 x1.toNatClampNeg) from (by rw [u2_ne (by decide), u2_ne (by decide)]), show (x_u2 (x_u2 F8 47 x1.toNatClampNeg v13) 28 (F8 57 x1.toNatClampNeg).toNatClampNeg v18) 57 x1.toNatClampNeg = (F8 57 x1.toNatClampNeg) from (by rw [u2_ne (by decide), u2_ne (by decide)]), show (x_u2 (x_u2 F8 47 x1.toNatClampNeg v13) 28 (F8 57 x1.toNatClampNeg).toNatClampNeg v18) 24 x1.toNatClampNeg = (F8 24 x1.toNatClampNeg) from (by rw [u2_ne (by decide), u2_ne (by decide)])]; exact ⟨fun z => by omega, fun z => by omega, fun z => by omega, fun z => by omega⟩)), (FR.put (K := 28) (i := (F8 57 x1.toNatClampNeg).toNatClampNeg) (v := v18) (FR.put (K := 47) (i := x1.toNatClampNeg) (v := v13) (FR.trans (FR.rel klp1_1) (FR.job q11.2.2)) rfl) rfl), by rw [show (x_u2 (x_u2 F8 47 x1.toNatClampNeg v13) 28 (F8 57 x1.toNatClampNeg).toNatClampNeg v18) 47 x1.toNatClampNeg = v13 from (by rw [u2_ne (by decide), u2_eq])]; omega⟩, rfl⟩)
      · skip
        refine q_aload rfl (by decide) ?_
        refine q_iload rfl ?_
        refine q_aload rfl (by decide) ?_
        refine m_gfr S (n := 1152) (by decide) ?_
        refine v_iconst (k := 16) rfl (fun v20 e21 => ?_)
        refine q_iload rfl ?_
        refine v_imul' e21 (by omega) (fun v22 e23 => ?_)
        refine q_aload rfl (by decide) ?_
        refine m_gfr S (n := 72) (by decide) ?_
        refine q_iload rfl ?_
        refine m_ald (k := 45) (n := 72) S (by decide) (by omega) (by omega) ?_
        have e24 : 0 ≤ (F4 63 x1.toNatClampNeg).toInt ∧ (F4 63 x1.toNatClampNeg).toInt ≤ 16 := klp1_0.rg (lo := 0) (hi := 16) (by decide) _
        refine v_iadd (by omega) (fun v25 e26 => ?_)
        refine v_iconst (k := 1) rfl (fun v27 e28 => ?_)
        refine v_isub (by omega) (fun v29 e30 => ?_)
        refine m_ald (k := 46) (n := 1152) S (by decide) (by omega) (by omega) ?_
        refine q_callv (j := 1) rfl (by decide) ⟨Nat.le_refl 1, Nat.le_of_eq S.1.symm⟩ (Nat.le_of_ble_eq_true rfl) (Nat.le_of_ble_eq_true rfl) (by show x_ce h + 0 ≤ 0; rw [S.2.2.1]; exact Nat.le_refl 0) (by show x_so h + 0 ≤ 0; rw [S.2.2.2]; exact Nat.le_refl 0) ?_
        refine xC.up (tv101 (h := x_setc h 0 0) (F := F4) (x1 := x1) (x2 := (F4 64 v29.toNatClampNeg)) (e := e) S.set (by omega) (klp1_0.vc _) klp1_0 (fun o31 F32 hp => ?_)) (by omega)
        obtain ⟨q35, rfl⟩ := hp
        have hlt := q35.2.2.2 ((F4 63 x1.toNatClampNeg).toInt - 1).toNat (by omega) (congrArg (F4 64) (by have c9 := x_clamp (n := v29) (by omega); omega))
        show x_seq _ _ _ _ ([.inr (.inr (8, 1)), .inl x1], [], mh h F32)
        refine q_goto ?_
        exact (ih3  F32 (q35.1) (fun K i a b c d f g => (q35.2.1 K i a b c d f g).trans (klp1_1 K i a b c d f g)) (by omega)).up (by omega)
  exact (lp1 17  F (M) (fun _ _ _ _ _ _ _ _ => rfl) (by omega)).up (by omega)
theorem tv105 {h : xH} {Z : xO → xH → Prop} {F : xF} {e : Nat} {x1 : Int32} {x2 : Int32} (S : MS h) (g1 : 0 ≤ x1.toInt ∧ x1.toInt ≤ 71) (M : MX e F) (he : e = x1.toNatClampNeg ∨ e = 72) (hZ : ∀ (o : xO) (F' : xF), (MX 72 F' ∧ FR F F') ∧ (o = .inl none) → Z o (mh h F')) : xC 11100 105 [.inr (.inr (8, 1)), .inl x1, .inl x2] (mh h F) Z := by
  refine ⟨rfl, S.2.2.1, S.2.2.2, ?_⟩
  show xR _ 105 0 ([.inr (.inr (8, 1)), .inl x1, .inl x2], [], mh h F) Z
  refine xR.blk c105_0 ?_
  refine q_aload rfl (by decide) ?_
  refine q_iload rfl ?_
  refine q_callv (j := 1) rfl (by decide) ⟨Nat.le_refl 1, Nat.le_of_eq S.1.symm⟩ (Nat.le_of_ble_eq_true rfl) (Nat.le_of_ble_eq_true rfl) (by show x_ce h + 0 ≤ 0; rw [S.2.2.1]; exact Nat.le_refl 0) (by show x_so h + 0 ≤ 0; rw [S.2.2.2]; exact Nat.le_refl 0) ?_
  refine xC.up (tv104 (h := x_setc h 0 0) (F := F) (x1 := x1) (e := e) S.set (by omega) M (he) (fun o1 F2 hp => ?_)) (by omega)
  obtain ⟨q5, rfl⟩ := hp
  have e06 := q5.2.2
  have M7 : MX x1.toNatClampNeg F2 := q5.1.opn (by omega)
  show x_seq _ _ _ _ ([.inr (.inr (8, 1)), .inl x1, .inl x2], [], mh h F2)
  refine q_aload rfl (by decide) ?_
  refine m_gfr S (n := 72) (by decide) ?_
  refine q_iload rfl ?_
  refine v_iconst (k := -1) rfl (fun v8 e9 => ?_)
  refine m_ast (k := 39) (n := 72) S (by decide) (by omega) (by omega) ?_
  show x_seq _ _ _ _ ([.inr (.inr (8, 1)), .inl x1, .inl x2], [], mh h (x_u2 F2 57 x1.toNatClampNeg v8))
  refine q_aload rfl (by decide) ?_
  refine m_gfr S (n := 72) (by decide) ?_
  refine q_iload rfl ?_
  refine q_iload rfl ?_
  refine m_ast (k := 4) (n := 72) S (by decide) (by omega) (by omega) ?_
  show x_seq _ _ _ _ ([.inr (.inr (8, 1)), .inl x1, .inl x2], [], mh h (x_u2 (x_u2 F2 57 x1.toNatClampNeg v8) 23 x1.toNatClampNeg x2))
  exact q_ret (hZ _ _ ⟨⟨(MX.close (MX.put (K := 23) (i := x1.toNatClampNeg) (v := x2) (MX.put (K := 57) (i := x1.toNatClampNeg) (v := v8) M7 (fun lo hi hm => by simp only [mrl, List.mem_cons, Prod.mk.injEq, List.not_mem_nil, or_false] at hm; omega) (by decide) (fun z => absurd z (by decide)) (Or.inr rfl)) (fun lo hi hm => by simp only [mrl, List.mem_cons, Prod.mk.injEq, List.not_mem_nil, or_false] at hm; omega) (by decide) (fun z => absurd z (by decide)) (Or.inl rfl)) (by unfold SL; rw [show (x_u2 (x_u2 F2 57 x1.toNatClampNeg v8) 23 x1.toNatClampNeg x2) 47 x1.toNatClampNeg = (F2 47 x1.toNatClampNeg) from (by rw [u2_ne (by decide), u2_ne (by decide)]), show (x_u2 (x_u2 F2 57 x1.toNatClampNeg v8) 23 x1.toNatClampNeg x2) 48 x1.toNatClampNeg = (F2 48 x1.toNatClampNeg) from (by rw [u2_ne (by decide), u2_ne (by decide)]), show (x_u2 (x_u2 F2 57 x1.toNatClampNeg v8) 23 x1.toNatClampNeg x2) 63 x1.toNatClampNeg = (F2 63 x1.toNatClampNeg) from (by rw [u2_ne (by decide), u2_ne (by decide)]), show (x_u2 (x_u2 F2 57 x1.toNatClampNeg v8) 23 x1.toNatClampNeg x2) 55 x1.toNatClampNeg = (F2 55 x1.toNatClampNeg) from (by rw [u2_ne (by decide), u2_ne (by decide)]), show (x_u2 (x_u2 F2 57 x1.toNatClampNeg v8) 23 x1.toNatClampNeg x2) 57 x1.toNatClampNeg = v8 from (by rw [u2_ne (by decide), u2_eq]), show (x_u2 (x_u2 F2 57 x1.toNatClampNeg v8) 23 x1.toNatClampNeg x2) 24 x1.toNatClampNeg = (F2 24 x1.toNatClampNeg) from (by rw [u2_ne (by decide), u2_ne (by decide)])]; exact ⟨fun z => by omega, fun z => by omega, fun z => by omega, fun z => by omega⟩)), (FR.put (K := 23) (i := x1.toNatClampNeg) (v := x2) (FR.put (K := 57) (i := x1.toNatClampNeg) (v := v8) (FR.trans FR.rfl' q5.2.1) rfl) rfl)⟩, rfl⟩)
theorem tv106 {h : xH} {Z : xO → xH → Prop} {F : xF} {x1 : Int32} {x2 : Int32} (S : MS h) (g1 : 0 ≤ x1.toInt ∧ x1.toInt ≤ 71) (M : MX 72 F) (hZ : ∀ (o : xO) (F' : xF), (MX 72 F' ∧ FR F F') ∧ (o = .inl none) → Z o (mh h F')) : xC 11100 106 [.inr (.inr (8, 1)), .inl x1, .inl x2] (mh h F) Z := by
  refine ⟨rfl, S.2.2.1, S.2.2.2, ?_⟩
  show xR _ 106 0 ([.inr (.inr (8, 1)), .inl x1, .inl x2, .inr (.inr (0, 0))], [], mh h F) Z
  refine xR.blk c106_0 ?_
  refine q_aload rfl (by decide) ?_
  refine m_gfr S (n := 72) (by decide) ?_
  refine q_iload rfl ?_
  refine m_ald (k := 39) (n := 72) S (by decide) (by omega) (by omega) ?_
  have e1 : -1 ≤ (F 57 x1.toNatClampNeg).toInt ∧ (F 57 x1.toNatClampNeg).toInt ≤ 71 := M.rg (lo := -1) (hi := 71) (by decide) _
  refine q_istore (Nat.le_of_ble_eq_true rfl) ?_
  show x_seq _ _ _ _ ([.inr (.inr (8, 1)), .inl x1, .inl x2, .inl (F 57 x1.toNatClampNeg)], [], mh h F)
  refine q_aload rfl (by decide) ?_
  refine q_iload rfl ?_
  refine q_callv (j := 1) rfl (by decide) ⟨Nat.le_refl 1, Nat.le_of_eq S.1.symm⟩ (Nat.le_of_ble_eq_true rfl) (Nat.le_of_ble_eq_true rfl) (by show x_ce h + 0 ≤ 0; rw [S.2.2.1]; exact Nat.le_refl 0) (by show x_so h + 0 ≤ 0; rw [S.2.2.2]; exact Nat.le_refl 0) ?_
  refine xC.up (tv104 (h := x_setc h 0 0) (F := F) (x1 := x1) (e := 72) S.set (by omega) M (Or.inr rfl) (fun o2 F3 hp => ?_)) (by omega)
  obtain ⟨q6, rfl⟩ := hp
  have e07 := q6.2.2
  have M8 : MX x1.toNatClampNeg F3 := q6.1.opn (by omega)
  show x_seq _ _ _ _ ([.inr (.inr (8, 1)), .inl x1, .inl x2, .inl (F 57 x1.toNatClampNeg)], [], mh h F3)
  refine q_aload rfl (by decide) ?_
  refine m_gfr S (n := 72) (by decide) ?_
  refine q_iload rfl ?_
  refine v_iconst (k := -1) rfl (fun v9 e10 => ?_)
  refine m_ast (k := 39) (n := 72) S (by decide) (by omega) (by omega) ?_
  show x_seq _ _ _ _ ([.inr (.inr (8, 1)), .inl x1, .inl x2, .inl (F 57 x1.toNatClampNeg)], [], mh h (x_u2 F3 57 x1.toNatClampNeg v9))
  refine q_aload rfl (by decide) ?_
  refine m_gfr S (n := 72) (by decide) ?_
  refine q_iload rfl ?_
  refine m_ald (k := 3) (n := 72) S (by decide) (by omega) (by omega) ?_
  show x_seq _ _ _ _ ([.inr (.inr (8, 1)), .inl x1, .inl x2, .inl (F 57 x1.toNatClampNeg)], [.inl (F3 22 x1.toNatClampNeg)], mh h (x_u2 F3 57 x1.toNatClampNeg v9))
  refine v_if_eq (fun d11 => ?_) (fun d11 => ?_)
  · skip
    refine xR.blk c106_35 ?_
    refine q_iload rfl ?_
    refine v_if_lt (fun d12 => ?_) (fun d12 => ?_)
    · skip
      refine xR.blk c106_55 ?_
      exact q_ret (hZ _ _ ⟨⟨(MX.close (MX.put (K := 57) (i := x1.toNatClampNeg) (v := v9) M8 (fun lo hi hm => by simp only [mrl, List.mem_cons, Prod.mk.injEq, List.not_mem_nil, or_false] at hm; omega) (by decide) (fun z => absurd z (by decide)) (Or.inr rfl)) (by unfold SL; rw [show (x_u2 F3 57 x1.toNatClampNeg v9) 47 x1.toNatClampNeg = (F3 47 x1.toNatClampNeg) from (by rw [u2_ne (by decide)]), show (x_u2 F3 57 x1.toNatClampNeg v9) 48 x1.toNatClampNeg = (F3 48 x1.toNatClampNeg) from (by rw [u2_ne (by decide)]), show (x_u2 F3 57 x1.toNatClampNeg v9) 63 x1.toNatClampNeg = (F3 63 x1.toNatClampNeg) from (by rw [u2_ne (by decide)]), show (x_u2 F3 57 x1.toNatClampNeg v9) 55 x1.toNatClampNeg = (F3 55 x1.toNatClampNeg) from (by rw [u2_ne (by decide)]), show (x_u2 F3 57 x1.toNatClampNeg v9) 57 x1.toNatClampNeg = v9 from (by rw [u2_eq]), show (x_u2 F3 57 x1.toNatClampNeg v9) 24 x1.toNatClampNeg = (F3 24 x1.toNatClampNeg) from (by rw [u2_ne (by decide)])]; exact ⟨fun z => by omega, fun z => by omega, fun z => by omega, fun z => by omega⟩)), (FR.put (K := 57) (i := x1.toNatClampNeg) (v := v9) (FR.trans FR.rfl' q6.2.1) rfl)⟩, rfl⟩)
    · skip
      refine q_aload rfl (by decide) ?_
      refine m_gfr S (n := 72) (by decide) ?_
      refine q_iload rfl ?_
      refine m_ald (k := 3) (n := 72) S (by decide) (by omega) (by omega) ?_
      show x_seq _ _ _ _ ([.inr (.inr (8, 1)), .inl x1, .inl x2, .inl (F 57 x1.toNatClampNeg)], [.inl (F3 22 (F 57 x1.toNatClampNeg).toNatClampNeg)], mh h (x_u2 F3 57 x1.toNatClampNeg v9))
      refine v_if_eq (fun d13 => ?_) (fun d13 => ?_)
      · skip
        refine xR.blk c106_55 ?_
        exact q_ret (hZ _ _ ⟨⟨(MX.close (MX.put (K := 57) (i := x1.toNatClampNeg) (v := v9) M8 (fun lo hi hm => by simp only [mrl, List.mem_cons, Prod.mk.injEq, List.not_mem_nil, or_false] at hm; omega) (by decide) (fun z => absurd z (by decide)) (Or.inr rfl)) (by unfold SL; rw [show (x_u2 F3 57 x1.toNatClampNeg v9) 47 x1.toNatClampNeg = (F3 47 x1.toNatClampNeg) from (by rw [u2_ne (by decide)]), show (x_u2 F3 57 x1.toNatClampNeg v9) 48 x1.toNatClampNeg = (F3 48 x1.toNatClampNeg) from (by rw [u2_ne (by decide)]), show (x_u2 F3 57 x1.toNatClampNeg v9) 63 x1.toNatClampNeg = (F3 63 x1.toNatClampNeg) from (by rw [u2_ne (by decide)]), show (x_u2 F3 57 x1.toNatClampNeg v9) 55 x1.toNatClampNeg = (F3 55 x1.toNatClampNeg) from (by rw [u2_ne (by decide)]), show (x_u2 F3 57 x1.toNatClampNeg v9) 57 x1.toNatClampNeg = v9 from (by rw [u2_eq]), show (x_u2 F3 57 x1.toNatClampNeg v9) 24 x1.toNatClampNeg = (F3 24 x1.toNatClampNeg) from (by rw [u2_ne (by decide)])]; exact ⟨fun z => by omega, fun z => by omega, fun z => by omega, fun z => by omega⟩)), (FR.put (K := 57) (i := x1.toNatClampNeg) (v := v9) (FR.trans FR.rfl' q6.2.1) rfl)⟩, rfl⟩)
      · skip
        refine q_aload rfl (by decide) ?_
        refine m_gfr S (n := 72) (by decide) ?_
        refine q_iload rfl ?_
        refine v_iconst (k := 3) rfl (fun v14 e15 => ?_)
        refine m_ast (k := 4) (n := 72) S (by decide) (by omega) (by omega) ?_
        show x_seq _ _ _ _ ([.inr (.inr (8, 1)), .inl x1, .inl x2, .inl (F 57 x1.toNatClampNeg)], [], mh h (x_u2 (x_u2 F3 57 x1.toNatClampNeg v9) 23 (F 57 x1.toNatClampNeg).toNatClampNeg v14))
        refine q_goto ?_
        refine xR.blk c106_55 ?_
        exact q_ret (hZ _ _ ⟨⟨(MX.close (MX.put (K := 23) (i := (F 57 x1.toNatClampNeg).toNatClampNeg) (v := v14) (MX.put (K := 57) (i := x1.toNatClampNeg) (v := v9) M8 (fun lo hi hm => by simp only [mrl, List.mem_cons, Prod.mk.injEq, List.not_mem_nil, or_false] at hm; omega) (by decide) (fun z => absurd z (by decide)) (Or.inr rfl)) (fun lo hi hm => by simp only [mrl, List.mem_cons, Prod.mk.injEq, List.not_mem_nil, or_false] at hm; omega) (by decide) (fun z => absurd z (by decide)) (Or.inl rfl)) (by unfold SL; rw [show (x_u2 (x_u2 F3 57 x1.toNatClampNeg v9) 23 (F 57 x1.toNatClampNeg).toNatClampNeg v14) 47 x1.toNatClampNeg = (F3 47 x1.toNatClampNeg) from (by rw [u2_ne (by decide), u2_ne (by decide)]), show (x_u2 (x_u2 F3 57 x1.toNatClampNeg v9) 23 (F 57 x1.toNatClampNeg).toNatClampNeg v14) 48 x1.toNatClampNeg = (F3 48 x1.toNatClampNeg) from (by rw [u2_ne (by decide), u2_ne (by decide)]), show (x_u2 (x_u2 F3 57 x1.toNatClampNeg v9) 23 (F 57 x1.toNatClampNeg).toNatClampNeg v14) 63 x1.toNatClampNeg = (F3 63 x1.toNatClampNeg) from (by rw [u2_ne (by decide), u2_ne (by decide)]), show (x_u2 (x_u2 F3 57 x1.toNatClampNeg v9) 23 (F 57 x1.toNatClampNeg).toNatClampNeg v14) 55 x1.toNatClampNeg = (F3 55 x1.toNatClampNeg) from (by rw [u2_ne (by decide), u2_ne (by decide)]), show (x_u2 (x_u2 F3 57 x1.toNatClampNeg v9) 23 (F 57 x1.toNatClampNeg).toNatClampNeg v14) 57 x1.toNatClampNeg = v9 from (by rw [u2_ne (by decide), u2_eq]), show (x_u2 (x_u2 F3 57 x1.toNatClampNeg v9) 23 (F 57 x1.toNatClampNeg).toNatClampNeg v14) 24 x1.toNatClampNeg = (F3 24 x1.toNatClampNeg) from (by rw [u2_ne (by decide), u2_ne (by decide)])]; exact ⟨fun z => by omega, fun z => by omega, fun z => by omega, fun z => by omega⟩)), (FR.put (K := 23) (i := (F 57 x1.toNatClampNeg).toNatClampNeg) (v := v14) (FR.put (K := 57) (i := x1.toNatClampNeg) (v := v9) (FR.trans FR.rfl' q6.2.1) rfl) rfl)⟩, rfl⟩)
  · skip
    refine q_aload rfl (by decide) ?_
    refine m_gfr S (n := 72) (by decide) ?_
    refine q_iload rfl ?_
    refine q_iload rfl ?_
    refine m_ast (k := 4) (n := 72) S (by decide) (by omega) (by omega) ?_
    show x_seq _ _ _ _ ([.inr (.inr (8, 1)), .inl x1, .inl x2, .inl (F 57 x1.toNatClampNeg)], [], mh h (x_u2 (x_u2 F3 57 x1.toNatClampNeg v9) 23 x1.toNatClampNeg x2))
    refine q_goto ?_
    refine xR.blk c106_35 ?_
    refine q_iload rfl ?_
    refine v_if_lt (fun d16 => ?_) (fun d16 => ?_)
    · skip
      refine xR.blk c106_55 ?_
      exact q_ret (hZ _ _ ⟨⟨(MX.close (MX.put (K := 23) (i := x1.toNatClampNeg) (v := x2) (MX.put (K := 57) (i := x1.toNatClampNeg) (v := v9) M8 (fun lo hi hm => by simp only [mrl, List.mem_cons, Prod.mk.injEq, List.not_mem_nil, or_false] at hm; omega) (by decide) (fun z => absurd z (by decide)) (Or.inr rfl)) (fun lo hi hm => by simp only [mrl, List.mem_cons, Prod.mk.injEq, List.not_mem_nil, or_false] at hm; omega) (by decide) (fun z => absurd z (by decide)) (Or.inl rfl)) (by unfold SL; rw [show (x_u2 (x_u2 F3 57 x1.toNatClampNeg v9) 23 x1.toNatClampNeg x2) 47 x1.toNatClampNeg = (F3 47 x1.toNatClampNeg) from (by rw [u2_ne (by decide), u2_ne (by decide)]), show (x_u2 (x_u2 F3 57 x1.toNatClampNeg v9) 23 x1.toNatClampNeg x2) 48 x1.toNatClampNeg = (F3 48 x1.toNatClampNeg) from (by rw [u2_ne (by decide), u2_ne (by decide)]), show (x_u2 (x_u2 F3 57 x1.toNatClampNeg v9) 23 x1.toNatClampNeg x2) 63 x1.toNatClampNeg = (F3 63 x1.toNatClampNeg) from (by rw [u2_ne (by decide), u2_ne (by decide)]), show (x_u2 (x_u2 F3 57 x1.toNatClampNeg v9) 23 x1.toNatClampNeg x2) 55 x1.toNatClampNeg = (F3 55 x1.toNatClampNeg) from (by rw [u2_ne (by decide), u2_ne (by decide)]), show (x_u2 (x_u2 F3 57 x1.toNatClampNeg v9) 23 x1.toNatClampNeg x2) 57 x1.toNatClampNeg = v9 from (by rw [u2_ne (by decide), u2_eq]), show (x_u2 (x_u2 F3 57 x1.toNatClampNeg v9) 23 x1.toNatClampNeg x2) 24 x1.toNatClampNeg = (F3 24 x1.toNatClampNeg) from (by rw [u2_ne (by decide), u2_ne (by decide)])]; exact ⟨fun z => by omega, fun z => by omega, fun z => by omega, fun z => by omega⟩)), (FR.put (K := 23) (i := x1.toNatClampNeg) (v := x2) (FR.put (K := 57) (i := x1.toNatClampNeg) (v := v9) (FR.trans FR.rfl' q6.2.1) rfl) rfl)⟩, rfl⟩)
    · skip
      refine q_aload rfl (by decide) ?_
      refine m_gfr S (n := 72) (by decide) ?_
      refine q_iload rfl ?_
      refine m_ald (k := 3) (n := 72) S (by decide) (by omega) (by omega) ?_
      show x_seq _ _ _ _ ([.inr (.inr (8, 1)), .inl x1, .inl x2, .inl (F 57 x1.toNatClampNeg)], [.inl (F3 22 (F 57 x1.toNatClampNeg).toNatClampNeg)], mh h (x_u2 (x_u2 F3 57 x1.toNatClampNeg v9) 23 x1.toNatClampNeg x2))
      refine v_if_eq (fun d17 => ?_) (fun d17 => ?_)
      · skip
        refine xR.blk c106_55 ?_
        exact q_ret (hZ _ _ ⟨⟨(MX.close (MX.put (K := 23) (i := x1.toNatClampNeg) (v := x2) (MX.put (K := 57) (i := x1.toNatClampNeg) (v := v9) M8 (fun lo hi hm => by simp only [mrl, List.mem_cons, Prod.mk.injEq, List.not_mem_nil, or_false] at hm; omega) (by decide) (fun z => absurd z (by decide)) (Or.inr rfl)) (fun lo hi hm => by simp only [mrl, List.mem_cons, Prod.mk.injEq, List.not_mem_nil, or_false] at hm; omega) (by decide) (fun z => absurd z (by decide)) (Or.inl rfl)) (by unfold SL; rw [show (x_u2 (x_u2 F3 57 x1.toNatClampNeg v9) 23 x1.toNatClampNeg x2) 47 x1.toNatClampNeg = (F3 47 x1.toNatClampNeg) from (by rw [u2_ne (by decide), u2_ne (by decide)]), show (x_u2 (x_u2 F3 57 x1.toNatClampNeg v9) 23 x1.toNatClampNeg x2) 48 x1.toNatClampNeg = (F3 48 x1.toNatClampNeg) from (by rw [u2_ne (by decide), u2_ne (by decide)]), show (x_u2 (x_u2 F3 57 x1.toNatClampNeg v9) 23 x1.toNatClampNeg x2) 63 x1.toNatClampNeg = (F3 63 x1.toNatClampNeg) from (by rw [u2_ne (by decide), u2_ne (by decide)]), show (x_u2 (x_u2 F3 57 x1.toNatClampNeg v9) 23 x1.toNatClampNeg x2) 55 x1.toNatClampNeg = (F3 55 x1.toNatClampNeg) from (by rw [u2_ne (by decide), u2_ne (by decide)]), show (x_u2 (x_u2 F3 57 x1.toNatClampNeg v9) 23 x1.toNatClampNeg x2) 57 x1.toNatClampNeg = v9 from (by rw [u2_ne (by decide), u2_eq]), show (x_u2 (x_u2 F3 57 x1.toNatClampNeg v9) 23 x1.toNatClampNeg x2) 24 x1.toNatClampNeg = (F3 24 x1.toNatClampNeg) from (by rw [u2_ne (by decide), u2_ne (by decide)])]; exact ⟨fun z => by omega, fun z => by omega, fun z => by omega, fun z => by omega⟩)), (FR.put (K := 23) (i := x1.toNatClampNeg) (v := x2) (FR.put (K := 57) (i := x1.toNatClampNeg) (v := v9) (FR.trans FR.rfl' q6.2.1) rfl) rfl)⟩, rfl⟩)
      · skip
        refine q_aload rfl (by decide) ?_
        refine m_gfr S (n := 72) (by decide) ?_
        refine q_iload rfl ?_
        refine v_iconst (k := 3) rfl (fun v18 e19 => ?_)
        refine m_ast (k := 4) (n := 72) S (by decide) (by omega) (by omega) ?_
        show x_seq _ _ _ _ ([.inr (.inr (8, 1)), .inl x1, .inl x2, .inl (F 57 x1.toNatClampNeg)], [], mh h (x_u2 (x_u2 (x_u2 F3 57 x1.toNatClampNeg v9) 23 x1.toNatClampNeg x2) 23 (F 57 x1.toNatClampNeg).toNatClampNeg v18))
        refine q_goto ?_
        refine xR.blk c106_55 ?_
        exact q_ret (hZ _ _ ⟨⟨(MX.close (MX.put (K := 23) (i := (F 57 x1.toNatClampNeg).toNatClampNeg) (v := v18) (MX.put (K := 23) (i := x1.toNatClampNeg) (v := x2) (MX.put (K := 57) (i := x1.toNatClampNeg) (v := v9) M8 (fun lo hi hm => by simp only [mrl, List.mem_cons, Prod.mk.injEq, List.not_mem_nil, or_false] at hm; omega) (by decide) (fun z => absurd z (by decide)) (Or.inr rfl)) (fun lo hi hm => by simp only [mrl, List.mem_cons, Prod.mk.injEq, List.not_mem_nil, or_false] at hm; omega) (by decide) (fun z => absurd z (by decide)) (Or.inl rfl)) (fun lo hi hm => by simp only [mrl, List.mem_cons, Prod.mk.injEq, List.not_mem_nil, or_false] at hm; omega) (by decide) (fun z => absurd z (by decide)) (Or.inl rfl)) (by unfold SL; rw [show (x_u2 (x_u2 (x_u2 F3 57 x1.toNatClampNeg v9) 23 x1.toNatClampNeg x2) 23 (F 57 x1.toNatClampNeg).toNatClampNeg v18) 47 x1.toNatClampNeg = (F3 47 x1.toNatClampNeg) from (by rw [u2_ne (by decide), u2_ne (by decide), u2_ne (by decide)]), show (x_u2 (x_u2 (x_u2 F3 57 x1.toNatClampNeg v9) 23 x1.toNatClampNeg x2) 23 (F 57 x1.toNatClampNeg).toNatClampNeg v18) 48 x1.toNatClampNeg = (F3 48 x1.toNatClampNeg) from (by rw [u2_ne (by decide), u2_ne (by decide), u2_ne (by decide)]), show (x_u2 (x_u2 (x_u2 F3 57 x1.toNatClampNeg v9) 23 x1.toNatClampNeg x2) 23 (F 57 x1.toNatClampNeg).toNatClampNeg v18) 63 x1.toNatClampNeg = (F3 63 x1.toNatClampNeg) from (by rw [u2_ne (by decide), u2_ne (by decide), u2_ne (by decide)]), show (x_u2 (x_u2 (x_u2 F3 57 x1.toNatClampNeg v9) 23 x1.toNatClampNeg x2) 23 (F 57 x1.toNatClampNeg).toNatClampNeg v18) 55 x1.toNatClampNeg = (F3 55 x1.toNatClampNeg) from (by rw [u2_ne (by decide), u2_ne (by decide), u2_ne (by decide)]), show (x_u2 (x_u2 (x_u2 F3 57 x1.toNatClampNeg v9) 23 x1.toNatClampNeg x2) 23 (F 57 x1.toNatClampNeg).toNatClampNeg v18) 57 x1.toNatClampNeg = v9 from (by rw [u2_ne (by decide), u2_ne (by decide), u2_eq]), show (x_u2 (x_u2 (x_u2 F3 57 x1.toNatClampNeg v9) 23 x1.toNatClampNeg x2) 23 (F 57 x1.toNatClampNeg).toNatClampNeg v18) 24 x1.toNatClampNeg = (F3 24 x1.toNatClampNeg) from (by rw [u2_ne (by decide), u2_ne (by decide), u2_ne (by decide)])]; exact ⟨fun z => by omega, fun z => by omega, fun z => by omega, fun z => by omega⟩)), (FR.put (K := 23) (i := (F 57 x1.toNatClampNeg).toNatClampNeg) (v := v18) (FR.put (K := 23) (i := x1.toNatClampNeg) (v := x2) (FR.put (K := 57) (i := x1.toNatClampNeg) (v := v9) (FR.trans FR.rfl' q6.2.1) rfl) rfl) rfl)⟩, rfl⟩)
theorem tv109 {h : xH} {Z : xO → xH → Prop} {F : xF} {x1 : Int32} (S : MS h) (g1 : 0 ≤ x1.toInt ∧ x1.toInt ≤ 71) (M : MX 72 F) (gS : (F 47 x1.toNatClampNeg).toInt = 0) (gR : ∃ i : Nat, 3 * (x1.toInt / 24) ≤ i ∧ (i : Int) ≤ 3 * (x1.toInt / 24) + 2 ∧ (F 38 i).toInt < 0) (hZ : ∀ (o : xO) (F' : xF), (MX 72 F' ∧ FR F F' ∧ (∃ i : Nat, 3 * (x1.toInt / 24) ≤ i ∧ (i : Int) ≤ 3 * (x1.toInt / 24) + 2 ∧ (F 38 i).toInt < 0 ∧ 0 ≤ (F' 38 i).toInt ∧ ∀ i', i' ≠ i → F' 38 i' = F 38 i')) ∧ (o = .inl none) → Z o (mh h F')) : xC 200 109 [.inr (.inr (8, 1)), .inl x1] (mh h F) Z := by
  refine ⟨rfl, S.2.2.1, S.2.2.2, ?_⟩
  have c1 := x_clamp g1.1
  have Mc : MX x1.toNatClampNeg F := M.opn (by omega)
  show xR _ 109 0 ([.inr (.inr (8, 1)), .inl x1, .inr (.inr (0, 0)), .inr (.inr (0, 0))], [], mh h F) Z
  refine xR.blk c109_0 ?_
  refine q_iload rfl ?_
  refine v_iconst (k := 24) rfl (fun v1 e2 => ?_)
  refine v_idiv e2 (by decide) (by omega) (fun v3 e4 => ?_)
  refine q_istore (Nat.le_of_ble_eq_true rfl) ?_
  show x_seq _ _ _ _ ([.inr (.inr (8, 1)), .inl x1, .inl v3, .inr (.inr (0, 0))], [], mh h F)
  refine q_aload rfl (by decide) ?_
  refine q_iload rfl ?_
  refine q_callv (j := 1) rfl (by decide) ⟨Nat.le_refl 1, Nat.le_of_eq S.1.symm⟩ (Nat.le_of_ble_eq_true rfl) (Nat.le_of_ble_eq_true rfl) (by show x_ce h + 0 ≤ 0; rw [S.2.2.1]; exact Nat.le_refl 0) (by show x_so h + 0 ≤ 0; rw [S.2.2.2]; exact Nat.le_refl 0) ?_
  refine xC.up (tv107 (h := x_setc h 0 0) (F := F) (x1 := v3) S.set (by omega) (fun o5 F6 hp => ?_)) (by omega)
  obtain ⟨hF9, ⟨v8, rfl, q7⟩⟩ := hp
  rw [hF9]
  show x_seq _ _ _ _ ([.inr (.inr (8, 1)), .inl x1, .inl v3, .inr (.inr (0, 0))], [.inl v8], mh h F)
  have hI := q7
  have hv0 : 0 ≤ v8.toInt := Classical.byContradiction (fun z => by obtain ⟨i, a, b, c⟩ := gR; have c9 := q7.2.2 (by omega) i (by omega) (by omega); omega)
  refine q_istore (Nat.le_of_ble_eq_true rfl) ?_
  show x_seq _ _ _ _ ([.inr (.inr (8, 1)), .inl x1, .inl v3, .inl v8], [], mh h F)
  refine q_aload rfl (by decide) ?_
  refine m_gfr S (n := 72) (by decide) ?_
  refine q_iload rfl ?_
  refine v_iconst (k := -1) rfl (fun v10 e11 => ?_)
  refine m_ast (k := 5) (n := 72) S (by decide) (by omega) (by omega) ?_
  show x_seq _ _ _ _ ([.inr (.inr (8, 1)), .inl x1, .inl v3, .inl v8], [], mh h (x_u2 F 24 x1.toNatClampNeg v10))
  refine q_aload rfl (by decide) ?_
  refine m_gfr S (n := 72) (by decide) ?_
  refine q_iload rfl ?_
  refine v_iconst (k := 1) rfl (fun v12 e13 => ?_)
  refine m_ast (k := 29) (n := 72) S (by decide) (by omega) (by omega) ?_
  show x_seq _ _ _ _ ([.inr (.inr (8, 1)), .inl x1, .inl v3, .inl v8], [], mh h (x_u2 (x_u2 F 24 x1.toNatClampNeg v10) 47 x1.toNatClampNeg v12))
  refine q_aload rfl (by decide) ?_
  refine m_gfr S (n := 72) (by decide) ?_
  refine q_iload rfl ?_
  refine v_iconst (k := 0) rfl (fun v14 e15 => ?_)
  refine m_ast (k := 30) (n := 72) S (by decide) (by omega) (by omega) ?_
  show x_seq _ _ _ _ ([.inr (.inr (8, 1)), .inl x1, .inl v3, .inl v8], [], mh h (x_u2 (x_u2 (x_u2 F 24 x1.toNatClampNeg v10) 47 x1.toNatClampNeg v12) 48 x1.toNatClampNeg v14))
  refine q_aload rfl (by decide) ?_
  refine m_gfr S (n := 72) (by decide) ?_
  refine q_iload rfl ?_
  refine v_iconst (k := 0) rfl (fun v16 e17 => ?_)
  refine m_ast (k := 38) (n := 72) S (by decide) (by omega) (by omega) ?_
  show x_seq _ _ _ _ ([.inr (.inr (8, 1)), .inl x1, .inl v3, .inl v8], [], mh h (x_u2 (x_u2 (x_u2 (x_u2 F 24 x1.toNatClampNeg v10) 47 x1.toNatClampNeg v12) 48 x1.toNatClampNeg v14) 56 x1.toNatClampNeg v16))
  refine q_aload rfl (by decide) ?_
  refine m_gfr S (n := 72) (by decide) ?_
  refine q_iload rfl ?_
  refine q_iload rfl ?_
  refine m_ast (k := 32) (n := 72) S (by decide) (by omega) (by omega) ?_
  show x_seq _ _ _ _ ([.inr (.inr (8, 1)), .inl x1, .inl v3, .inl v8], [], mh h (x_u2 (x_u2 (x_u2 (x_u2 (x_u2 F 24 x1.toNatClampNeg v10) 47 x1.toNatClampNeg v12) 48 x1.toNatClampNeg v14) 56 x1.toNatClampNeg v16) 50 x1.toNatClampNeg v3))
  refine q_aload rfl (by decide) ?_
  refine m_gfr S (n := 72) (by decide) ?_
  refine q_iload rfl ?_
  refine q_iload rfl ?_
  refine m_ast (k := 33) (n := 72) S (by decide) (by omega) (by omega) ?_
  show x_seq _ _ _ _ ([.inr (.inr (8, 1)), .inl x1, .inl v3, .inl v8], [], mh h (x_u2 (x_u2 (x_u2 (x_u2 (x_u2 (x_u2 F 24 x1.toNatClampNeg v10) 47 x1.toNatClampNeg v12) 48 x1.toNatClampNeg v14) 56 x1.toNatClampNeg v16) 50 x1.toNatClampNeg v3) 51 x1.toNatClampNeg v8))
  refine q_aload rfl (by decide) ?_
  refine m_gfr S (n := 72) (by decide) ?_
  refine q_iload rfl ?_
  refine v_iconst (k := 1) rfl (fun v18 e19 => ?_)
  refine q_iload rfl ?_
  refine q_bin ?_
  show x_seq _ _ _ _ ([.inr (.inr (8, 1)), .inl x1, .inl v3, .inl v8], [.inl (v18 <<< (v3 &&& 31)), .inl x1, .inr (.inr (55, 1))], mh h (x_u2 (x_u2 (x_u2 (x_u2 (x_u2 (x_u2 F 24 x1.toNatClampNeg v10) 47 x1.toNatClampNeg v12) 48 x1.toNatClampNeg v14) 56 x1.toNatClampNeg v16) 50 x1.toNatClampNeg v3) 51 x1.toNatClampNeg v8))
  have hsh : (0 ≤ (v18 <<< (v3 &&& 31)).toInt ∧ (v18 <<< (v3 &&& 31)).toInt ≤ 7) ∧ mpop (v18 <<< (v3 &&& 31)).toInt = 1 := m_shl' (by omega) (by omega)
  refine m_ast (k := 37) (n := 72) S (by decide) (by omega) (by omega) ?_
  show x_seq _ _ _ _ ([.inr (.inr (8, 1)), .inl x1, .inl v3, .inl v8], [], mh h (x_u2 (x_u2 (x_u2 (x_u2 (x_u2 (x_u2 (x_u2 F 24 x1.toNatClampNeg v10) 47 x1.toNatClampNeg v12) 48 x1.toNatClampNeg v14) 56 x1.toNatClampNeg v16) 50 x1.toNatClampNeg v3) 51 x1.toNatClampNeg v8) 55 x1.toNatClampNeg (v18 <<< (v3 &&& 31))))
  refine q_aload rfl (by decide) ?_
  refine m_gfr S (n := 72) (by decide) ?_
  refine q_iload rfl ?_
  refine v_iconst (k := -1) rfl (fun v22 e23 => ?_)
  refine m_ast (k := 39) (n := 72) S (by decide) (by omega) (by omega) ?_
  show x_seq _ _ _ _ ([.inr (.inr (8, 1)), .inl x1, .inl v3, .inl v8], [], mh h (x_u2 (x_u2 (x_u2 (x_u2 (x_u2 (x_u2 (x_u2 (x_u2 F 24 x1.toNatClampNeg v10) 47 x1.toNatClampNeg v12) 48 x1.toNatClampNeg v14) 56 x1.toNatClampNeg v16) 50 x1.toNatClampNeg v3) 51 x1.toNatClampNeg v8) 55 x1.toNatClampNeg (v18 <<< (v3 &&& 31))) 57 x1.toNatClampNeg v22))
  refine q_aload rfl (by decide) ?_
  refine m_gfr S (n := 72) (by decide) ?_
  refine q_iload rfl ?_
  refine v_iconst (k := 0) rfl (fun v24 e25 => ?_)
  refine m_zst (k := 42) (n := 72) S (by decide) (by omega) (by omega) (i32_01 (by omega)) ?_
  show x_seq _ _ _ _ ([.inr (.inr (8, 1)), .inl x1, .inl v3, .inl v8], [], mh h (x_u2 (x_u2 (x_u2 (x_u2 (x_u2 (x_u2 (x_u2 (x_u2 (x_u2 F 24 x1.toNatClampNeg v10) 47 x1.toNatClampNeg v12) 48 x1.toNatClampNeg v14) 56 x1.toNatClampNeg v16) 50 x1.toNatClampNeg v3) 51 x1.toNatClampNeg v8) 55 x1.toNatClampNeg (v18 <<< (v3 &&& 31))) 57 x1.toNatClampNeg v22) 60 x1.toNatClampNeg v24))
  refine q_aload rfl (by decide) ?_
  refine m_gfr S (n := 72) (by decide) ?_
  refine q_iload rfl ?_
  refine v_iconst (k := 0) rfl (fun v26 e27 => ?_)
  refine m_ast (k := 45) (n := 72) S (by decide) (by omega) (by omega) ?_
  show x_seq _ _ _ _ ([.inr (.inr (8, 1)), .inl x1, .inl v3, .inl v8], [], mh h (x_u2 (x_u2 (x_u2 (x_u2 (x_u2 (x_u2 (x_u2 (x_u2 (x_u2 (x_u2 F 24 x1.toNatClampNeg v10) 47 x1.toNatClampNeg v12) 48 x1.toNatClampNeg v14) 56 x1.toNatClampNeg v16) 50 x1.toNatClampNeg v3) 51 x1.toNatClampNeg v8) 55 x1.toNatClampNeg (v18 <<< (v3 &&& 31))) 57 x1.toNatClampNeg v22) 60 x1.toNatClampNeg v24) 63 x1.toNatClampNeg v26))
  refine q_aload rfl (by decide) ?_
  refine q_iload rfl ?_
  refine v_iconst (k := 1000) rfl (fun v28 e29 => ?_)
  refine q_iload rfl ?_
  refine v_imul' e29 (by omega) (fun v30 e31 => ?_)
  refine v_iconst (k := 30) rfl (fun v32 e33 => ?_)
  refine v_iadd (by omega) (fun v34 e35 => ?_)
  refine q_iload rfl ?_
  refine v_iadd (by omega) (fun v36 e37 => ?_)
  refine q_callv (j := 1) rfl (by decide) ⟨Nat.le_refl 1, Nat.le_of_eq S.1.symm⟩ (Nat.le_of_ble_eq_true rfl) (Nat.le_of_ble_eq_true rfl) (by show x_ce h + 0 ≤ 0; rw [S.2.2.1]; exact Nat.le_refl 0) (by show x_so h + 0 ≤ 0; rw [S.2.2.2]; exact Nat.le_refl 0) ?_
  refine xC.up (tv100 (h := x_setc h 0 0) (F := (x_u2 (x_u2 (x_u2 (x_u2 (x_u2 (x_u2 (x_u2 (x_u2 (x_u2 (x_u2 F 24 x1.toNatClampNeg v10) 47 x1.toNatClampNeg v12) 48 x1.toNatClampNeg v14) 56 x1.toNatClampNeg v16) 50 x1.toNatClampNeg v3) 51 x1.toNatClampNeg v8) 55 x1.toNatClampNeg (v18 <<< (v3 &&& 31))) 57 x1.toNatClampNeg v22) 60 x1.toNatClampNeg v24) 63 x1.toNatClampNeg v26)) (x1 := x1) (x2 := v36) S.set (by omega) (by unfold VC; omega) (by rw [show (x_u2 (x_u2 (x_u2 (x_u2 (x_u2 (x_u2 (x_u2 (x_u2 (x_u2 (x_u2 F 24 x1.toNatClampNeg v10) 47 x1.toNatClampNeg v12) 48 x1.toNatClampNeg v14) 56 x1.toNatClampNeg v16) 50 x1.toNatClampNeg v3) 51 x1.toNatClampNeg v8) 55 x1.toNatClampNeg (v18 <<< (v3 &&& 31))) 57 x1.toNatClampNeg v22) 60 x1.toNatClampNeg v24) 63 x1.toNatClampNeg v26) 63 x1.toNatClampNeg = v26 from (by rw [u2_eq])]; omega) (fun o38 F39 hp => ?_)) (by omega)
  obtain ⟨q42, rfl⟩ := hp
  obtain ⟨w43, j43, K43, i43, e43, hw43, hK43, hR43⟩ := q42
  rw [show (x_u2 (x_u2 (x_u2 (x_u2 (x_u2 (x_u2 (x_u2 (x_u2 (x_u2 (x_u2 F 24 x1.toNatClampNeg v10) 47 x1.toNatClampNeg v12) 48 x1.toNatClampNeg v14) 56 x1.toNatClampNeg v16) 50 x1.toNatClampNeg v3) 51 x1.toNatClampNeg v8) 55 x1.toNatClampNeg (v18 <<< (v3 &&& 31))) 57 x1.toNatClampNeg v22) 60 x1.toNatClampNeg v24) 63 x1.toNatClampNeg v26) 63 x1.toNatClampNeg = v26 from (by rw [u2_eq])] at hw43
  have fr43 : ∀ K i, K ≠ 36 → K ≠ 37 → K ≠ 38 → K ≠ 41 → K ≠ 63 → K ≠ 64 → F39 K i = (x_u2 (x_u2 (x_u2 (x_u2 (x_u2 (x_u2 (x_u2 (x_u2 (x_u2 (x_u2 F 24 x1.toNatClampNeg v10) 47 x1.toNatClampNeg v12) 48 x1.toNatClampNeg v14) 56 x1.toNatClampNeg v16) 50 x1.toNatClampNeg v3) 51 x1.toNatClampNeg v8) 55 x1.toNatClampNeg (v18 <<< (v3 &&& 31))) 57 x1.toNatClampNeg v22) 60 x1.toNatClampNeg v24) 63 x1.toNatClampNeg v26) K i := fun K i a b c d f g => by rw [e43, u2_ne (gv_ne hK43 a b c d), u2_ne f, u2_ne g]
  have M43 : MX x1.toNatClampNeg F39 := by rw [e43]; exact MX.seize (MX.put (K := 63) (i := x1.toNatClampNeg) (v := v26) (MX.put (K := 60) (i := x1.toNatClampNeg) (v := v24) (MX.put (K := 57) (i := x1.toNatClampNeg) (v := v22) (MX.put (K := 55) (i := x1.toNatClampNeg) (v := (v18 <<< (v3 &&& 31))) (MX.put (K := 51) (i := x1.toNatClampNeg) (v := v8) (MX.put (K := 50) (i := x1.toNatClampNeg) (v := v3) (MX.put (K := 56) (i := x1.toNatClampNeg) (v := v16) (MX.put (K := 48) (i := x1.toNatClampNeg) (v := v14) (MX.put (K := 47) (i := x1.toNatClampNeg) (v := v12) (MX.put (K := 24) (i := x1.toNatClampNeg) (v := v10) Mc (fun lo hi hm => by simp only [mrl, List.mem_cons, Prod.mk.injEq, List.not_mem_nil, or_false] at hm; omega) (by decide) (fun z => absurd z (by decide)) (Or.inr rfl)) (fun lo hi hm => by simp only [mrl, List.mem_cons, Prod.mk.injEq, List.not_mem_nil, or_false] at hm; omega) (by decide) (fun z => absurd z (by decide)) (Or.inr rfl)) (fun lo hi hm => by simp only [mrl, List.mem_cons, Prod.mk.injEq, List.not_mem_nil, or_false] at hm; omega) (by decide) (fun z => absurd z (by decide)) (Or.inr rfl)) (fun lo hi hm => by simp only [mrl, List.mem_cons, Prod.mk.injEq, List.not_mem_nil, or_false] at hm; omega) (by decide) (fun z => absurd z (by decide)) (Or.inl rfl)) (fun lo hi hm => by simp only [mrl, List.mem_cons, Prod.mk.injEq, List.not_mem_nil, or_false] at hm; omega) (by decide) (fun z => absurd z (by decide)) (Or.inl rfl)) (fun lo hi hm => by simp only [mrl, List.mem_cons, Prod.mk.injEq, List.not_mem_nil, or_false] at hm; omega) (by decide) (fun z => absurd z (by decide)) (Or.inl rfl)) (fun lo hi hm => by simp only [mrl, List.mem_cons, Prod.mk.injEq, List.not_mem_nil, or_false] at hm; omega) (by decide) (fun z => absurd z (by decide)) (Or.inr rfl)) (fun lo hi hm => by simp only [mrl, List.mem_cons, Prod.mk.injEq, List.not_mem_nil, or_false] at hm; omega) (by decide) (fun z => absurd z (by decide)) (Or.inr rfl)) (fun lo hi hm => by simp only [mrl, List.mem_cons, Prod.mk.injEq, List.not_mem_nil, or_false] at hm; omega) (by decide) (fun z => absurd z (by decide)) (Or.inl rfl)) (fun lo hi hm => by simp only [mrl, List.mem_cons, Prod.mk.injEq, List.not_mem_nil, or_false] at hm; omega) (by decide) (fun z => absurd z (by decide)) (Or.inr rfl)) (by unfold VC; omega) (by omega) hK43 (by omega)
  have t43 : (F39 63 x1.toNatClampNeg).toInt = v26.toInt + 1 := by rw [e43, u2_ne (gv_ne hK43 (by decide) (by decide) (by decide) (by decide)), u2_eq]; exact hw43
  have kk44 : F39 24 x1.toNatClampNeg = v10 := (fr43 24 x1.toNatClampNeg (by decide) (by decide) (by decide) (by decide) (by decide) (by decide)).trans (by rw [u2_ne (by decide), u2_ne (by decide), u2_ne (by decide), u2_ne (by decide), u2_ne (by decide), u2_ne (by decide), u2_ne (by decide), u2_ne (by decide), u2_ne (by decide), u2_eq])
  have ki45 : (F39 24 x1.toNatClampNeg).toInt = v10.toInt := by rw [kk44]
  have kk46 : F39 47 x1.toNatClampNeg = v12 := (fr43 47 x1.toNatClampNeg (by decide) (by decide) (by decide) (by decide) (by decide) (by decide)).trans (by rw [u2_ne (by decide), u2_ne (by decide), u2_ne (by decide), u2_ne (by decide), u2_ne (by decide), u2_ne (by decide), u2_ne (by decide), u2_ne (by decide), u2_eq])
  have ki47 : (F39 47 x1.toNatClampNeg).toInt = v12.toInt := by rw [kk46]
  have kk48 : F39 48 x1.toNatClampNeg = v14 := (fr43 48 x1.toNatClampNeg (by decide) (by decide) (by decide) (by decide) (by decide) (by decide)).trans (by rw [u2_ne (by decide), u2_ne (by decide), u2_ne (by decide), u2_ne (by decide), u2_ne (by decide), u2_ne (by decide), u2_ne (by decide), u2_eq])
  have ki49 : (F39 48 x1.toNatClampNeg).toInt = v14.toInt := by rw [kk48]
  have kk50 : F39 55 x1.toNatClampNeg = (v18 <<< (v3 &&& 31)) := (fr43 55 x1.toNatClampNeg (by decide) (by decide) (by decide) (by decide) (by decide) (by decide)).trans (by rw [u2_ne (by decide), u2_ne (by decide), u2_ne (by decide), u2_eq])
  have ki51 : (F39 55 x1.toNatClampNeg).toInt = (v18 <<< (v3 &&& 31)).toInt := by rw [kk50]
  have ki52 : mpop (F39 55 x1.toNatClampNeg).toInt = mpop (v18 <<< (v3 &&& 31)).toInt := by rw [kk50]
  have kk53 : F39 57 x1.toNatClampNeg = v22 := (fr43 57 x1.toNatClampNeg (by decide) (by decide) (by decide) (by decide) (by decide) (by decide)).trans (by rw [u2_ne (by decide), u2_ne (by decide), u2_eq])
  have ki54 : (F39 57 x1.toNatClampNeg).toInt = v22.toInt := by rw [kk53]
  show x_seq _ _ _ _ ([.inr (.inr (8, 1)), .inl x1, .inl v3, .inl v8], [], mh h F39)
  exact q_ret (hZ _ _ ⟨⟨(MX.close M43 (by unfold SL; exact ⟨fun z => by omega, fun z => by omega, fun z => by omega, fun z => by omega⟩)), (FR.trans (FR.put (K := 63) (i := x1.toNatClampNeg) (v := v26) (FR.put (K := 60) (i := x1.toNatClampNeg) (v := v24) (FR.put (K := 57) (i := x1.toNatClampNeg) (v := v22) (FR.put (K := 55) (i := x1.toNatClampNeg) (v := (v18 <<< (v3 &&& 31))) (FR.put (K := 51) (i := x1.toNatClampNeg) (v := v8) (FR.put (K := 50) (i := x1.toNatClampNeg) (v := v3) (FR.put (K := 56) (i := x1.toNatClampNeg) (v := v16) (FR.put (K := 48) (i := x1.toNatClampNeg) (v := v14) (FR.put (K := 47) (i := x1.toNatClampNeg) (v := v12) (FR.put (K := 24) (i := x1.toNatClampNeg) (v := v10) FR.rfl' rfl) rfl) rfl) rfl) rfl) rfl) rfl) rfl) rfl) rfl) (FR.rel fr43)), by obtain ⟨hk, hi⟩ := hR43 (by omega); subst hk; refine ⟨i43, by omega, by omega, hI.2.1 hv0 _ (by omega), ?_, fun i' hne => ?_⟩ <;> rw [e43]; (rw [u2_eq]; omega); rw [u2_ni hne]; rfl⟩, rfl⟩)
theorem tv119 {h : xH} {Z : xO → xH → Prop} {F : xF} {e : Nat} {x1 : Int32} {x2 : Int32} {x3 : Int32} (S : MS h) (g1 : 0 ≤ x1.toInt ∧ x1.toInt ≤ 2) (g2 : -1 ≤ x2.toInt ∧ x2.toInt ≤ 23) (g3 : -1 ≤ x3.toInt ∧ x3.toInt ≤ 23) (M : MX e F) (hZ : ∀ (o : xO) (F' : xF), ((MX e F' ∧ (∀ K i, K ≠ 8 → F' K i = F K i) ∧ F' 8 0 = F 8 0 ∧ F' 8 20 = F 8 20)) ∧ (∃ v : Int32, o = .inl (some (.inl v)) ∧ (0 ≤ v.toInt ∧ v.toInt ≤ 1)) → Z o (mh h F')) : xC 1500 119 [.inr (.inr (8, 1)), .inl x1, .inl x2, .inl x3] (mh h F) Z := by
  refine ⟨rfl, S.2.2.1, S.2.2.2, ?_⟩
  show xR _ 119 0 ([.inr (.inr (8, 1)), .inl x1, .inl x2, .inl x3, .inr (.inr (0, 0)), .inr (.inr (0, 0)), .inr (.inr (0, 0)), .inr (.inr (0, 0)), .inr (.inr (0, 0)), .inr (.inr (0, 0))], [], mh h F) Z
  refine xR.blk c119_0 ?_
  refine v_iconst (k := 0) rfl (fun v1 e2 => ?_)
  refine q_istore (Nat.le_of_ble_eq_true rfl) ?_
  show x_seq _ _ _ _ ([.inr (.inr (8, 1)), .inl x1, .inl x2, .inl x3, .inl v1, .inr (.inr (0, 0)), .inr (.inr (0, 0)), .inr (.inr (0, 0)), .inr (.inr (0, 0)), .inr (.inr (0, 0))], [], mh h F)
  refine q_goto ?_
  have lp3 : ∀ (m4 : Nat) (ylp3_4 : Int32) (zlp3_5 : xV) (zlp3_6 : xV) (zlp3_7 : xV) (zlp3_8 : xV) (zlp3_9 : xV), (0 ≤ ylp3_4.toInt ∧ ylp3_4.toInt ≤ 4) → (4 - ylp3_4.toInt).toNat < m4 → xR (20 + 250 * m4) 119 3 ([.inr (.inr (8, 1)), .inl x1, .inl x2, .inl x3, .inl ylp3_4, zlp3_5, zlp3_6, zlp3_7, zlp3_8, zlp3_9], [], mh h F) Z := by
    intro m4
    induction m4 with
    | zero => intro ylp3_4 zlp3_5 zlp3_6 zlp3_7 zlp3_8 zlp3_9 klp3_0 kmlp3; exact absurd kmlp3 (by omega)
    | succ m4 ih5 =>
      intro ylp3_4 zlp3_5 zlp3_6 zlp3_7 zlp3_8 zlp3_9 klp3_0 kmlp3
      rw [show 20 + 250 * (m4 + 1) = 20 + 250 * m4 + 250 by omega]
      have jn6 : ∀ (yjn6_5 : Int32) (yjn6_6 : Int32), (0 ≤ ylp3_4.toInt ∧ ylp3_4.toInt < 4) → (0 ≤ yjn6_5.toInt ∧ yjn6_5.toInt ≤ 3) → xR (20 + 250 * m4 + 240) 119 60 ([.inr (.inr (8, 1)), .inl x1, .inl x2, .inl x3, .inl ylp3_4, .inl yjn6_5, .inl yjn6_6, zlp3_7, zlp3_8, zlp3_9], [], mh h F) Z := by
        intro yjn6_5 yjn6_6 kjn6_0 kjn6_1
        refine xR.blk c119_60 ?_
        refine q_iload rfl ?_
        refine v_if_ge (fun d9 => ?_) (fun d9 => ?_)
        · skip
          refine xR.blk c119_72 ?_
          refine v_iconst (k := 0) rfl (fun v10 e11 => ?_)
          refine q_istore (Nat.le_of_ble_eq_true rfl) ?_
          show x_seq _ _ _ _ ([.inr (.inr (8, 1)), .inl x1, .inl x2, .inl x3, .inl ylp3_4, .inl yjn6_5, .inl yjn6_6, .inl v10, zlp3_8, zlp3_9], [], mh h F)
          refine q_goto ?_
          have lp12 : ∀ (m13 : Nat) (ylp12_7 : Int32) (zlp12_8 : xV) (zlp12_9 : xV), (0 ≤ ylp12_7.toInt ∧ ylp12_7.toInt ≤ 4) → (4 - ylp12_7.toInt).toNat < m13 → xR (20 + 250 * m4 + 20 + 25 * m13) 119 75 ([.inr (.inr (8, 1)), .inl x1, .inl x2, .inl x3, .inl ylp3_4, .inl yjn6_5, .inl yjn6_6, .inl ylp12_7, zlp12_8, zlp12_9], [], mh h F) Z := by
            intro m13
            induction m13 with
            | zero => intro ylp12_7 zlp12_8 zlp12_9 klp12_0 kmlp12; exact absurd kmlp12 (by omega)
            | succ m13 ih14 =>
              intro ylp12_7 zlp12_8 zlp12_9 klp12_0 kmlp12
              rw [show 20 + 250 * m4 + 20 + 25 * (m13 + 1) = 20 + 250 * m4 + 20 + 25 * m13 + 25 by omega]
              have jn15 : ∀ (sjn15_0 : Int32), (0 ≤ ylp12_7.toInt ∧ ylp12_7.toInt < 4) → (0 ≤ sjn15_0.toInt ∧ sjn15_0.toInt ≤ 3) → (0 ≤ x3.toInt) → xR (20 + 250 * m4 + 20 + 25 * m13 + 20) 119 101 ([.inr (.inr (8, 1)), .inl x1, .inl x2, .inl x3, .inl ylp3_4, .inl yjn6_5, .inl yjn6_6, .inl ylp12_7, zlp12_8, zlp12_9], [.inl sjn15_0], mh h F) Z := by
                intro sjn15_0 kjn15_0 kjn15_1 kjn15_2
                refine xR.blk c119_101 ?_
                refine q_istore (Nat.le_of_ble_eq_true rfl) ?_
                show x_seq _ _ _ _ ([.inr (.inr (8, 1)), .inl x1, .inl x2, .inl x3, .inl ylp3_4, .inl yjn6_5, .inl yjn6_6, .inl ylp12_7, .inl sjn15_0, zlp12_9], [], mh h F)
                refine q_iload rfl ?_
                refine q_iload rfl ?_
                refine v_iconst (k := 8) rfl (fun v18 e19 => ?_)
                refine v_idiv e19 (by decide) (by omega) (fun v20 e21 => ?_)
                refine q_iload rfl ?_
                refine q_call (Nat.le_of_ble_eq_true rfl) (Nat.le_of_ble_eq_true rfl) (by show x_ce h + 0 ≤ 0; rw [S.2.2.1]; exact Nat.le_refl 0) (by show x_so h + 0 ≤ 0; rw [S.2.2.2]; exact Nat.le_refl 0) ?_
                refine xC.up (tv118 (h := x_setc h 0 0) (F := F) (x0 := x1) (x1 := v20) (x2 := sjn15_0) S.set (by omega) (by omega) (by omega) (fun o22 F23 hp => ?_)) (by omega)
                obtain ⟨hF26, ⟨v25, rfl, q24⟩⟩ := hp
                rw [hF26]
                show x_seq _ _ _ _ ([.inr (.inr (8, 1)), .inl x1, .inl x2, .inl x3, .inl ylp3_4, .inl yjn6_5, .inl yjn6_6, .inl ylp12_7, .inl sjn15_0, zlp12_9], [.inl v25], mh h F)
                refine q_istore (Nat.le_of_ble_eq_true rfl) ?_
                show x_seq _ _ _ _ ([.inr (.inr (8, 1)), .inl x1, .inl x2, .inl x3, .inl ylp3_4, .inl yjn6_5, .inl yjn6_6, .inl ylp12_7, .inl sjn15_0, .inl v25], [], mh h F)
                refine q_aload rfl (by decide) ?_
                refine m_gfr S (n := 36) (by decide) ?_
                refine q_iload rfl ?_
                refine m_ald (k := 17) (n := 36) S (by decide) (by omega) (by omega) ?_
                refine v_if_ge (fun d27 => ?_) (fun d27 => ?_)
                · skip
                  refine xR.blk c119_146 ?_
                  refine v_iinc (k := 1) rfl rfl (by omega) (by omega) (fun v28 e29 => ?_)
                  show x_seq _ _ _ _ ([.inr (.inr (8, 1)), .inl x1, .inl x2, .inl x3, .inl ylp3_4, .inl yjn6_5, .inl yjn6_6, .inl v28, .inl sjn15_0, .inl v25], [], mh h F)
                  refine q_goto ?_
                  exact (ih14 v28 (.inl sjn15_0) (.inl v25) (by omega) (by omega)).up (by omega)
                · skip
                  refine q_iload rfl ?_
                  refine q_iload rfl ?_
                  refine v_icmp_eq (fun d30 => ?_) (fun d30 => ?_)
                  · skip
                    refine xR.blk c119_146 ?_
                    refine v_iinc (k := 1) rfl rfl (by omega) (by omega) (fun v31 e32 => ?_)
                    show x_seq _ _ _ _ ([.inr (.inr (8, 1)), .inl x1, .inl x2, .inl x3, .inl ylp3_4, .inl yjn6_5, .inl yjn6_6, .inl v31, .inl sjn15_0, .inl v25], [], mh h F)
                    refine q_goto ?_
                    exact (ih14 v31 (.inl sjn15_0) (.inl v25) (by omega) (by omega)).up (by omega)
                  · skip
                    refine q_aload rfl (by decide) ?_
                    refine q_iload rfl ?_
                    refine m_pfi S ?_
                    show x_seq _ _ _ _ ([.inr (.inr (8, 1)), .inl x1, .inl x2, .inl x3, .inl ylp3_4, .inl yjn6_5, .inl yjn6_6, .inl ylp12_7, .inl sjn15_0, .inl v25], [], mh h (x_u2 F 8 47 yjn6_5))
                    refine q_aload rfl (by decide) ?_
                    refine q_iload rfl ?_
                    refine m_pfi S ?_
                    show x_seq _ _ _ _ ([.inr (.inr (8, 1)), .inl x1, .inl x2, .inl x3, .inl ylp3_4, .inl yjn6_5, .inl yjn6_6, .inl ylp12_7, .inl sjn15_0, .inl v25], [], mh h (x_u2 (x_u2 F 8 47 yjn6_5) 8 48 sjn15_0))
                    refine v_iconst (k := 1) rfl (fun v33 e34 => ?_)
                    exact q_zret (i32_01 (by omega)) (hZ _ _ ⟨⟨(MX.putf (k := 48) (v := sjn15_0) (MX.putf (k := 47) (v := yjn6_5) M (fun lo hi hm => by simp only [mfl, List.mem_cons, Prod.mk.injEq, List.not_mem_nil, or_false] at hm; omega)) (fun lo hi hm => by simp only [mfl, List.mem_cons, Prod.mk.injEq, List.not_mem_nil, or_false] at hm; omega)), fun K i hK => by rw [u2_ne hK, u2_ne hK], (by rw [u2_ni (by decide), u2_ni (by decide)]), (by rw [u2_ni (by decide), u2_ni (by decide)])⟩, ⟨_, rfl, by omega⟩⟩)
              refine xR.blk c119_75 ?_
              refine q_iload rfl ?_
              refine v_iconst (k := 4) rfl (fun v35 e36 => ?_)
              refine v_icmp_ge (fun d37 => ?_) (fun d37 => ?_)
              · skip
                refine xR.blk c119_152 ?_
                refine v_iinc (k := 1) rfl rfl (by omega) (by omega) (fun v38 e39 => ?_)
                show x_seq _ _ _ _ ([.inr (.inr (8, 1)), .inl x1, .inl x2, .inl x3, .inl v38, .inl yjn6_5, .inl yjn6_6, .inl ylp12_7, zlp12_8, zlp12_9], [], mh h F)
                refine q_goto ?_
                exact (ih5 v38 (.inl yjn6_5) (.inl yjn6_6) (.inl ylp12_7) (zlp12_8) (zlp12_9) (by omega) (by omega)).up (by omega)
              · skip
                refine q_iload rfl ?_
                refine v_if_ge (fun d40 => ?_) (fun d40 => ?_)
                · skip
                  refine xR.blk c119_90 ?_
                  refine q_aload rfl (by decide) ?_
                  refine m_gfr S (n := 3) (by decide) ?_
                  refine q_iload rfl ?_
                  refine m_ald (k := 25) (n := 3) S (by decide) (by omega) (by omega) ?_
                  have e41 : 0 ≤ (F 43 x1.toNatClampNeg).toInt ∧ (F 43 x1.toNatClampNeg).toInt ≤ 3 := M.rg (lo := 0) (hi := 3) (by decide) _
                  refine q_iload rfl ?_
                  refine v_iadd (by omega) (fun v42 e43 => ?_)
                  refine v_iconst (k := 4) rfl (fun v44 e45 => ?_)
                  refine v_irem e45 (by decide) (by omega) (fun v46 e47 => ?_)
                  refine q_goto ?_
                  exact (jn15 v46 (by omega) (by omega) (by omega)).up (by omega)
                · skip
                  refine q_iload rfl ?_
                  refine q_goto ?_
                  exact (jn15 yjn6_5 (by omega) (by omega) (by omega)).up (by omega)
          exact (lp12 5 v10 (zlp3_8) (zlp3_9) (by omega) (by omega)).up (by omega)
        · skip
          refine q_aload rfl (by decide) ?_
          refine q_iload rfl ?_
          refine m_pfi S ?_
          show x_seq _ _ _ _ ([.inr (.inr (8, 1)), .inl x1, .inl x2, .inl x3, .inl ylp3_4, .inl yjn6_5, .inl yjn6_6, zlp3_7, zlp3_8, zlp3_9], [], mh h (x_u2 F 8 47 yjn6_5))
          refine v_iconst (k := 1) rfl (fun v48 e49 => ?_)
          exact q_zret (i32_01 (by omega)) (hZ _ _ ⟨⟨(MX.putf (k := 47) (v := yjn6_5) M (fun lo hi hm => by simp only [mfl, List.mem_cons, Prod.mk.injEq, List.not_mem_nil, or_false] at hm; omega)), fun K i hK => by rw [u2_ne hK], (by rw [u2_ni (by decide)]), (by rw [u2_ni (by decide)])⟩, ⟨_, rfl, by omega⟩⟩)
      refine xR.blk c119_3 ?_
      refine q_iload rfl ?_
      refine v_iconst (k := 4) rfl (fun v50 e51 => ?_)
      refine v_icmp_ge (fun d52 => ?_) (fun d52 => ?_)
      · skip
        refine xR.blk c119_158 ?_
        refine v_iconst (k := 0) rfl (fun v53 e54 => ?_)
        exact q_zret (i32_01 (by omega)) (hZ _ _ ⟨⟨M, fun K i hK => rfl, rfl, rfl⟩, ⟨_, rfl, by omega⟩⟩)
      · skip
        refine q_aload rfl (by decide) ?_
        refine m_gfr S (n := 3) (by decide) ?_
        refine q_iload rfl ?_
        refine m_ald (k := 25) (n := 3) S (by decide) (by omega) (by omega) ?_
        have e55 : 0 ≤ (F 43 x1.toNatClampNeg).toInt ∧ (F 43 x1.toNatClampNeg).toInt ≤ 3 := M.rg (lo := 0) (hi := 3) (by decide) _
        refine q_iload rfl ?_
        refine v_iadd (by omega) (fun v56 e57 => ?_)
        refine v_iconst (k := 4) rfl (fun v58 e59 => ?_)
        refine v_irem e59 (by decide) (by omega) (fun v60 e61 => ?_)
        refine q_istore (Nat.le_of_ble_eq_true rfl) ?_
        show x_seq _ _ _ _ ([.inr (.inr (8, 1)), .inl x1, .inl x2, .inl x3, .inl ylp3_4, .inl v60, zlp3_6, zlp3_7, zlp3_8, zlp3_9], [], mh h F)
        refine q_iload rfl ?_
        refine v_if_ge (fun d62 => ?_) (fun d62 => ?_)
        · skip
          refine xR.blk c119_30 ?_
          refine q_iload rfl ?_
          refine q_iload rfl ?_
          refine v_iconst (k := 8) rfl (fun v63 e64 => ?_)
          refine v_idiv e64 (by decide) (by omega) (fun v65 e66 => ?_)
          refine q_iload rfl ?_
          refine q_call (Nat.le_of_ble_eq_true rfl) (Nat.le_of_ble_eq_true rfl) (by show x_ce h + 0 ≤ 0; rw [S.2.2.1]; exact Nat.le_refl 0) (by show x_so h + 0 ≤ 0; rw [S.2.2.2]; exact Nat.le_refl 0) ?_
          refine xC.up (tv118 (h := x_setc h 0 0) (F := F) (x0 := x1) (x1 := v65) (x2 := v60) S.set (by omega) (by omega) (by omega) (fun o67 F68 hp => ?_)) (by omega)
          obtain ⟨hF71, ⟨v70, rfl, q69⟩⟩ := hp
          rw [hF71]
          show x_seq _ _ _ _ ([.inr (.inr (8, 1)), .inl x1, .inl x2, .inl x3, .inl ylp3_4, .inl v60, zlp3_6, zlp3_7, zlp3_8, zlp3_9], [.inl v70], mh h F)
          refine q_goto ?_
          refine xR.blk c119_40 ?_
          refine q_istore (Nat.le_of_ble_eq_true rfl) ?_
          show x_seq _ _ _ _ ([.inr (.inr (8, 1)), .inl x1, .inl x2, .inl x3, .inl ylp3_4, .inl v60, .inl v70, zlp3_7, zlp3_8, zlp3_9], [], mh h F)
          refine q_iload rfl ?_
          refine v_if_lt (fun d72 => ?_) (fun d72 => ?_)
          · skip
            exact (jn6 v60 v70 (by omega) (by omega)).up (by omega)
          · skip
            refine q_aload rfl (by decide) ?_
            refine m_gfr S (n := 36) (by decide) ?_
            refine q_iload rfl ?_
            refine m_ald (k := 17) (n := 36) S (by decide) (by omega) (by omega) ?_
            refine v_if_lt (fun d73 => ?_) (fun d73 => ?_)
            · skip
              exact (jn6 v60 v70 (by omega) (by omega)).up (by omega)
            · skip
              refine q_goto ?_
              refine xR.blk c119_152 ?_
              refine v_iinc (k := 1) rfl rfl (by omega) (by omega) (fun v74 e75 => ?_)
              show x_seq _ _ _ _ ([.inr (.inr (8, 1)), .inl x1, .inl x2, .inl x3, .inl v74, .inl v60, .inl v70, zlp3_7, zlp3_8, zlp3_9], [], mh h F)
              refine q_goto ?_
              exact (ih5 v74 (.inl v60) (.inl v70) (zlp3_7) (zlp3_8) (zlp3_9) (by omega) (by omega)).up (by omega)
        · skip
          refine v_iconst (k := -1) rfl (fun v76 e77 => ?_)
          refine q_goto ?_
          refine xR.blk c119_40 ?_
          refine q_istore (Nat.le_of_ble_eq_true rfl) ?_
          show x_seq _ _ _ _ ([.inr (.inr (8, 1)), .inl x1, .inl x2, .inl x3, .inl ylp3_4, .inl v60, .inl v76, zlp3_7, zlp3_8, zlp3_9], [], mh h F)
          refine q_iload rfl ?_
          refine v_if_lt (fun d78 => ?_) (fun d78 => ?_)
          · skip
            exact (jn6 v60 v76 (by omega) (by omega)).up (by omega)
          · skip
            refine q_aload rfl (by decide) ?_
            refine m_gfr S (n := 36) (by decide) ?_
            refine q_iload rfl ?_
            refine m_ald (k := 17) (n := 36) S (by decide) (by omega) (by omega) ?_
            refine v_if_lt (fun d79 => ?_) (fun d79 => ?_)
            · skip
              exact (jn6 v60 v76 (by omega) (by omega)).up (by omega)
            · skip
              refine q_goto ?_
              refine xR.blk c119_152 ?_
              refine v_iinc (k := 1) rfl rfl (by omega) (by omega) (fun v80 e81 => ?_)
              show x_seq _ _ _ _ ([.inr (.inr (8, 1)), .inl x1, .inl x2, .inl x3, .inl v80, .inl v60, .inl v76, zlp3_7, zlp3_8, zlp3_9], [], mh h F)
              refine q_goto ?_
              exact (ih5 v80 (.inl v60) (.inl v76) (zlp3_7) (zlp3_8) (zlp3_9) (by omega) (by omega)).up (by omega)
  exact (lp3 5 v1 (.inr (.inr (0, 0))) (.inr (.inr (0, 0))) (.inr (.inr (0, 0))) (.inr (.inr (0, 0))) (.inr (.inr (0, 0))) (by omega) (by omega)).up (by omega)
