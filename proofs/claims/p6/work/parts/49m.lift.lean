/-! LIFT AND HANG in the reference: exact -/
theorem tx110 {h : xH} {Z : xO → xH → Prop} {F : xF} {x1 : Int32} {x2 : Int32} (S : MS h) (M : MX 72 F) (hZ : ∀ (o : xO) (F' : xF), (MX 72 F') ∧ o = .inl none ∧ (((0 ≤ x1.toInt ∧ x1.toInt ≤ 2 ∧ 0 ≤ x2.toInt ∧ x2.toInt ≤ 23) ∧ (F 22 (lx x1 x2)).toInt = 0 ∧ (F' 8 0).toInt = 0 ∧ ∀ t, F' 22 t = upl (F 22) (lx x1 x2) 1 t) ∨ (¬ (0 ≤ x1.toInt ∧ x1.toInt ≤ 2 ∧ 0 ≤ x2.toInt ∧ x2.toInt ≤ 23) ∧ (F' 8 0).toInt = 1 ∧ ∀ t, F' 22 t = F 22 t) ∨ ((0 ≤ x1.toInt ∧ x1.toInt ≤ 2 ∧ 0 ≤ x2.toInt ∧ x2.toInt ≤ 23) ∧ (F 22 (lx x1 x2)).toInt ≠ 0 ∧ (F' 8 0).toInt = 2 ∧ ∀ t, F' 22 t = F 22 t)) → Z o (mh h F')) : xC 2000 110 [.inr (.inr (8, 1)), .inl x1, .inl x2] (mh h F) Z := by
  refine ⟨rfl, S.2.2.1, S.2.2.2, ?_⟩
  show xR _ 110 0 ([.inr (.inr (8, 1)), .inl x1, .inl x2, .inr (.inr (0, 0)), .inr (.inr (0, 0))], [], mh h F) Z
  have jn1 : ∀ (sjn1_0 : Int32), (0 ≤ sjn1_0.toInt ∧ sjn1_0.toInt ≤ 2) → (((0 ≤ x1.toInt ∧ x1.toInt ≤ 2 ∧ 0 ≤ x2.toInt ∧ x2.toInt ≤ 23) ∧ (F 22 (lx x1 x2)).toInt = 0 ∧ sjn1_0.toInt = 0) ∨ (¬ (0 ≤ x1.toInt ∧ x1.toInt ≤ 2 ∧ 0 ≤ x2.toInt ∧ x2.toInt ≤ 23) ∧ sjn1_0.toInt = 1) ∨ ((0 ≤ x1.toInt ∧ x1.toInt ≤ 2 ∧ 0 ≤ x2.toInt ∧ x2.toInt ≤ 23) ∧ (F 22 (lx x1 x2)).toInt ≠ 0 ∧ sjn1_0.toInt = 2)) → xR (1900) 110 32 ([.inr (.inr (8, 1)), .inl x1, .inl x2, .inr (.inr (0, 0)), .inr (.inr (0, 0))], [.inl sjn1_0, .inr (.inr (8, 1))], mh h F) Z := by
    intro sjn1_0 kjn1_0 kjn1_1
    refine xR.blk c110_32 ?_
    refine q_callv (j := 1) rfl (by decide) ⟨Nat.le_refl 1, Nat.le_of_eq S.1.symm⟩ (Nat.le_of_ble_eq_true rfl) (Nat.le_of_ble_eq_true rfl) (by show x_ce h + 0 ≤ 0; rw [S.2.2.1]; exact Nat.le_refl 0) (by show x_so h + 0 ≤ 0; rw [S.2.2.2]; exact Nat.le_refl 0) ?_
    refine xC.up (tv91 (h := x_setc h 0 0) (F := F) (x1 := sjn1_0) S.set  (fun o4 F5 hp => ?_)) (by omega)
    obtain ⟨q8, ⟨v7, rfl, q6⟩⟩ := hp
    subst q8
    show x_seq _ _ _ _ ([.inr (.inr (8, 1)), .inl x1, .inl x2, .inr (.inr (0, 0)), .inr (.inr (0, 0))], [.inl v7], mh h (x_u2 F 8 0 sjn1_0))
    refine v_if_eq (fun d9 => ?_) (fun d9 => ?_)
    · skip
      have X0 : (0 ≤ x1.toInt ∧ x1.toInt ≤ 2 ∧ 0 ≤ x2.toInt ∧ x2.toInt ≤ 23) ∧ (F 22 (lx x1 x2)).toInt = 0 ∧ sjn1_0.toInt = 0 := by omega
      clear kjn1_1
      obtain ⟨X1, X2, X3⟩ := X0
      have hc1 := x_clamp (n := x1) (by omega)
      have hc2 := x_clamp (n := x2) (by omega)
      refine xR.blk c110_39 ?_
      refine v_iconst (k := 24) rfl (fun v10 e11 => ?_)
      refine q_iload rfl ?_
      refine v_imul' e11 (by omega) (fun v12 e13 => ?_)
      refine q_iload rfl ?_
      refine v_iadd (by omega) (fun v14 e15 => ?_)
      have hi9 : v14.toNatClampNeg = lx x1 x2 := by have := x_clamp (n := v14) (by omega); unfold lx; omega
      refine q_istore (Nat.le_of_ble_eq_true rfl) ?_
      show x_seq _ _ _ _ ([.inr (.inr (8, 1)), .inl x1, .inl x2, .inl v14, .inr (.inr (0, 0))], [], mh h (x_u2 F 8 0 sjn1_0))
      refine q_aload rfl (by decide) ?_
      refine m_gfr S (n := 72) (by decide) ?_
      refine q_iload rfl ?_
      refine v_iconst (k := 1) rfl (fun v16 e17 => ?_)
      have U : ∀ t, (if 22 = 22 ∧ t = v14.toNatClampNeg then v16 else F 22 t) = upl (F 22) (lx x1 x2) 1 t := by
        intro t
        show _ = if t = lx x1 x2 then 1 else F 22 t
        rw [hi9, show v16 = 1 from i32_eq.mpr e17]
        by_cases e9 : t = lx x1 x2
        · rw [if_pos ⟨rfl, e9⟩, if_pos e9]
        · rw [if_neg (fun y => e9 y.2), if_neg e9]
      refine m_zst (k := 3) (n := 72) S (by decide) (by omega) (by omega) (i32_01 (by omega)) ?_
      show x_seq _ _ _ _ ([.inr (.inr (8, 1)), .inl x1, .inl x2, .inl v14, .inr (.inr (0, 0))], [], mh h (x_u2 (x_u2 F 8 0 sjn1_0) 22 v14.toNatClampNeg v16))
      refine q_aload rfl (by decide) ?_
      refine m_gfr S (n := 72) (by decide) ?_
      refine q_iload rfl ?_
      refine m_ald (k := 9) (n := 72) S (by decide) (by omega) (by omega) ?_
      have e18 : -1 ≤ (F 28 v14.toNatClampNeg).toInt ∧ (F 28 v14.toNatClampNeg).toInt ≤ 71 := M.rg (lo := -1) (hi := 71) (by decide) _
      show x_seq _ _ _ _ ([.inr (.inr (8, 1)), .inl x1, .inl x2, .inl v14, .inr (.inr (0, 0))], [.inl (F 28 v14.toNatClampNeg)], mh h (x_u2 (x_u2 F 8 0 sjn1_0) 22 v14.toNatClampNeg v16))
      refine q_istore (Nat.le_of_ble_eq_true rfl) ?_
      show x_seq _ _ _ _ ([.inr (.inr (8, 1)), .inl x1, .inl x2, .inl v14, .inl (F 28 v14.toNatClampNeg)], [], mh h (x_u2 (x_u2 F 8 0 sjn1_0) 22 v14.toNatClampNeg v16))
      refine q_iload rfl ?_
      refine v_if_lt (fun d19 => ?_) (fun d19 => ?_)
      · skip
        refine xR.blk c110_131 ?_
        refine q_aload rfl (by decide) ?_
        refine m_gfr S (n := 72) (by decide) ?_
        refine q_iload rfl ?_
        refine m_ald (k := 29) (n := 72) S (by decide) (by omega) (by omega) ?_
        have e20 : 0 ≤ (F 47 v14.toNatClampNeg).toInt ∧ (F 47 v14.toNatClampNeg).toInt ≤ 5 := M.rg (lo := 0) (hi := 5) (by decide) _
        show x_seq _ _ _ _ ([.inr (.inr (8, 1)), .inl x1, .inl x2, .inl v14, .inl (F 28 v14.toNatClampNeg)], [.inl (F 47 v14.toNatClampNeg)], mh h (x_u2 (x_u2 F 8 0 sjn1_0) 22 v14.toNatClampNeg v16))
        refine v_if_ne (fun d21 => ?_) (fun d21 => ?_)
        · skip
          refine xR.blk c110_184 ?_
          exact q_ret (hZ _ _ ⟨(MX.put (K := 22) (i := v14.toNatClampNeg) (v := v16) (MX.putf (k := 0) (v := sjn1_0) M (fun lo hi hm => by simp only [mfl, List.mem_cons, Prod.mk.injEq, List.not_mem_nil, or_false] at hm; omega)) (fun lo hi hm => by simp only [mrl, List.mem_cons, Prod.mk.injEq, List.not_mem_nil, or_false] at hm; omega) (by decide) (fun z => absurd z (by decide)) (Or.inl rfl)), rfl, Or.inl ⟨X1, X2, X3, U⟩⟩)
        · skip
          refine q_aload rfl (by decide) ?_
          refine q_iload rfl ?_
          refine q_callv (j := 1) rfl (by decide) ⟨Nat.le_refl 1, Nat.le_of_eq S.1.symm⟩ (Nat.le_of_ble_eq_true rfl) (Nat.le_of_ble_eq_true rfl) (by show x_ce h + 0 ≤ 0; rw [S.2.2.1]; exact Nat.le_refl 0) (by show x_so h + 0 ≤ 0; rw [S.2.2.2]; exact Nat.le_refl 0) ?_
          refine xC.up (tv107 (h := x_setc h 0 0) (F := (x_u2 (x_u2 F 8 0 sjn1_0) 22 v14.toNatClampNeg v16)) (x1 := x1) S.set (by omega) (fun o22 F23 hp => ?_)) (by omega)
          obtain ⟨hF26, ⟨v25, rfl, q24⟩⟩ := hp
          rw [hF26]
          show x_seq _ _ _ _ ([.inr (.inr (8, 1)), .inl x1, .inl x2, .inl v14, .inl (F 28 v14.toNatClampNeg)], [.inl v25], mh h (x_u2 (x_u2 F 8 0 sjn1_0) 22 v14.toNatClampNeg v16))
          have hI := q24
          refine v_if_lt (fun d27 => ?_) (fun d27 => ?_)
          · skip
            refine xR.blk c110_164 ?_
            have cc30 := x_clamp (n := v14) (by omega)
            have sl29 : SL F v14.toNatClampNeg := M.2.2.2.1 _ (by omega) (by omega)
            unfold SL at sl29
            have M28 : MX v14.toNatClampNeg F := M.opn (by omega)
            refine q_aload rfl (by decide) ?_
            refine m_gfr S (n := 72) (by decide) ?_
            refine q_iload rfl ?_
            refine q_aload rfl (by decide) ?_
            refine m_gfi S ?_
            show x_seq _ _ _ _ ([.inr (.inr (8, 1)), .inl x1, .inl x2, .inl v14, .inl (F 28 v14.toNatClampNeg)], [.inl (F 8 2), .inl v14, .inr (.inr (24, 1))], mh h (x_u2 (x_u2 F 8 0 sjn1_0) 22 v14.toNatClampNeg v16))
            refine m_ast (k := 5) (n := 72) S (by decide) (by omega) (by omega) ?_
            show x_seq _ _ _ _ ([.inr (.inr (8, 1)), .inl x1, .inl x2, .inl v14, .inl (F 28 v14.toNatClampNeg)], [], mh h (x_u2 (x_u2 (x_u2 F 8 0 sjn1_0) 22 v14.toNatClampNeg v16) 24 v14.toNatClampNeg (F 8 2)))
            refine q_aload rfl (by decide) ?_
            refine q_dup rfl ?_
            refine m_gfi S ?_
            show x_seq _ _ _ _ ([.inr (.inr (8, 1)), .inl x1, .inl x2, .inl v14, .inl (F 28 v14.toNatClampNeg)], [.inl (F 8 2), .inr (.inr (8, 1))], mh h (x_u2 (x_u2 (x_u2 F 8 0 sjn1_0) 22 v14.toNatClampNeg v16) 24 v14.toNatClampNeg (F 8 2)))
            refine v_iconst (k := 1) rfl (fun v31 e32 => ?_)
            refine v_bin (fun v33 => ?_)
            refine m_pfi S ?_
            show x_seq _ _ _ _ ([.inr (.inr (8, 1)), .inl x1, .inl x2, .inl v14, .inl (F 28 v14.toNatClampNeg)], [], mh h (x_u2 (x_u2 (x_u2 (x_u2 F 8 0 sjn1_0) 22 v14.toNatClampNeg v16) 24 v14.toNatClampNeg (F 8 2)) 8 2 v33))
            refine q_goto ?_
            refine xR.blk c110_184 ?_
            exact q_ret (hZ _ _ ⟨(MX.close (MX.putf (k := 2) (v := v33) (MX.put (K := 24) (i := v14.toNatClampNeg) (v := (F 8 2)) (MX.put (K := 22) (i := v14.toNatClampNeg) (v := v16) (MX.putf (k := 0) (v := sjn1_0) M28 (fun lo hi hm => by simp only [mfl, List.mem_cons, Prod.mk.injEq, List.not_mem_nil, or_false] at hm; omega)) (fun lo hi hm => by simp only [mrl, List.mem_cons, Prod.mk.injEq, List.not_mem_nil, or_false] at hm; omega) (by decide) (fun z => absurd z (by decide)) (Or.inl rfl)) (fun lo hi hm => by simp only [mrl, List.mem_cons, Prod.mk.injEq, List.not_mem_nil, or_false] at hm; omega) (by decide) (fun z => absurd z (by decide)) (Or.inr rfl)) (fun lo hi hm => by simp only [mfl, List.mem_cons, Prod.mk.injEq, List.not_mem_nil, or_false] at hm; omega)) (by unfold SL; rw [show (x_u2 (x_u2 (x_u2 (x_u2 F 8 0 sjn1_0) 22 v14.toNatClampNeg v16) 24 v14.toNatClampNeg (F 8 2)) 8 2 v33) 47 v14.toNatClampNeg = (F 47 v14.toNatClampNeg) from (by rw [u2_ne (by decide), u2_ne (by decide), u2_ne (by decide), u2_ne (by decide)]), show (x_u2 (x_u2 (x_u2 (x_u2 F 8 0 sjn1_0) 22 v14.toNatClampNeg v16) 24 v14.toNatClampNeg (F 8 2)) 8 2 v33) 48 v14.toNatClampNeg = (F 48 v14.toNatClampNeg) from (by rw [u2_ne (by decide), u2_ne (by decide), u2_ne (by decide), u2_ne (by decide)]), show (x_u2 (x_u2 (x_u2 (x_u2 F 8 0 sjn1_0) 22 v14.toNatClampNeg v16) 24 v14.toNatClampNeg (F 8 2)) 8 2 v33) 63 v14.toNatClampNeg = (F 63 v14.toNatClampNeg) from (by rw [u2_ne (by decide), u2_ne (by decide), u2_ne (by decide), u2_ne (by decide)]), show (x_u2 (x_u2 (x_u2 (x_u2 F 8 0 sjn1_0) 22 v14.toNatClampNeg v16) 24 v14.toNatClampNeg (F 8 2)) 8 2 v33) 55 v14.toNatClampNeg = (F 55 v14.toNatClampNeg) from (by rw [u2_ne (by decide), u2_ne (by decide), u2_ne (by decide), u2_ne (by decide)]), show (x_u2 (x_u2 (x_u2 (x_u2 F 8 0 sjn1_0) 22 v14.toNatClampNeg v16) 24 v14.toNatClampNeg (F 8 2)) 8 2 v33) 57 v14.toNatClampNeg = (F 57 v14.toNatClampNeg) from (by rw [u2_ne (by decide), u2_ne (by decide), u2_ne (by decide), u2_ne (by decide)]), show (x_u2 (x_u2 (x_u2 (x_u2 F 8 0 sjn1_0) 22 v14.toNatClampNeg v16) 24 v14.toNatClampNeg (F 8 2)) 8 2 v33) 24 v14.toNatClampNeg = (F 8 2) from (by rw [u2_ne (by decide), u2_eq])]; exact ⟨fun z => by omega, fun z => by omega, fun z => by omega, fun z => by omega⟩)), rfl, Or.inl ⟨X1, X2, X3, U⟩⟩)
          · skip
            refine q_aload rfl (by decide) ?_
            refine q_iload rfl ?_
            refine q_callv (j := 1) rfl (by decide) ⟨Nat.le_refl 1, Nat.le_of_eq S.1.symm⟩ (Nat.le_of_ble_eq_true rfl) (Nat.le_of_ble_eq_true rfl) (by show x_ce h + 0 ≤ 0; rw [S.2.2.1]; exact Nat.le_refl 0) (by show x_so h + 0 ≤ 0; rw [S.2.2.2]; exact Nat.le_refl 0) ?_
            refine xC.up (tv108 (h := x_setc h 0 0) (F := (x_u2 (x_u2 F 8 0 sjn1_0) 22 v14.toNatClampNeg v16)) (x1 := x1) S.set (by omega) (fun o35 F36 hp => ?_)) (by omega)
            obtain ⟨hF39, ⟨v38, rfl, q37⟩⟩ := hp
            rw [hF39]
            show x_seq _ _ _ _ ([.inr (.inr (8, 1)), .inl x1, .inl x2, .inl v14, .inl (F 28 v14.toNatClampNeg)], [.inl v38], mh h (x_u2 (x_u2 F 8 0 sjn1_0) 22 v14.toNatClampNeg v16))
            have hW1 := q37.1
            clear q37
            refine v_if_ne (fun d40 => ?_) (fun d40 => ?_)
            · skip
              refine xR.blk c110_164 ?_
              have cc43 := x_clamp (n := v14) (by omega)
              have sl42 : SL F v14.toNatClampNeg := M.2.2.2.1 _ (by omega) (by omega)
              unfold SL at sl42
              have M41 : MX v14.toNatClampNeg F := M.opn (by omega)
              refine q_aload rfl (by decide) ?_
              refine m_gfr S (n := 72) (by decide) ?_
              refine q_iload rfl ?_
              refine q_aload rfl (by decide) ?_
              refine m_gfi S ?_
              show x_seq _ _ _ _ ([.inr (.inr (8, 1)), .inl x1, .inl x2, .inl v14, .inl (F 28 v14.toNatClampNeg)], [.inl (F 8 2), .inl v14, .inr (.inr (24, 1))], mh h (x_u2 (x_u2 F 8 0 sjn1_0) 22 v14.toNatClampNeg v16))
              refine m_ast (k := 5) (n := 72) S (by decide) (by omega) (by omega) ?_
              show x_seq _ _ _ _ ([.inr (.inr (8, 1)), .inl x1, .inl x2, .inl v14, .inl (F 28 v14.toNatClampNeg)], [], mh h (x_u2 (x_u2 (x_u2 F 8 0 sjn1_0) 22 v14.toNatClampNeg v16) 24 v14.toNatClampNeg (F 8 2)))
              refine q_aload rfl (by decide) ?_
              refine q_dup rfl ?_
              refine m_gfi S ?_
              show x_seq _ _ _ _ ([.inr (.inr (8, 1)), .inl x1, .inl x2, .inl v14, .inl (F 28 v14.toNatClampNeg)], [.inl (F 8 2), .inr (.inr (8, 1))], mh h (x_u2 (x_u2 (x_u2 F 8 0 sjn1_0) 22 v14.toNatClampNeg v16) 24 v14.toNatClampNeg (F 8 2)))
              refine v_iconst (k := 1) rfl (fun v44 e45 => ?_)
              refine v_bin (fun v46 => ?_)
              refine m_pfi S ?_
              show x_seq _ _ _ _ ([.inr (.inr (8, 1)), .inl x1, .inl x2, .inl v14, .inl (F 28 v14.toNatClampNeg)], [], mh h (x_u2 (x_u2 (x_u2 (x_u2 F 8 0 sjn1_0) 22 v14.toNatClampNeg v16) 24 v14.toNatClampNeg (F 8 2)) 8 2 v46))
              refine q_goto ?_
              refine xR.blk c110_184 ?_
              exact q_ret (hZ _ _ ⟨(MX.close (MX.putf (k := 2) (v := v46) (MX.put (K := 24) (i := v14.toNatClampNeg) (v := (F 8 2)) (MX.put (K := 22) (i := v14.toNatClampNeg) (v := v16) (MX.putf (k := 0) (v := sjn1_0) M41 (fun lo hi hm => by simp only [mfl, List.mem_cons, Prod.mk.injEq, List.not_mem_nil, or_false] at hm; omega)) (fun lo hi hm => by simp only [mrl, List.mem_cons, Prod.mk.injEq, List.not_mem_nil, or_false] at hm; omega) (by decide) (fun z => absurd z (by decide)) (Or.inl rfl)) (fun lo hi hm => by simp only [mrl, List.mem_cons, Prod.mk.injEq, List.not_mem_nil, or_false] at hm; omega) (by decide) (fun z => absurd z (by decide)) (Or.inr rfl)) (fun lo hi hm => by simp only [mfl, List.mem_cons, Prod.mk.injEq, List.not_mem_nil, or_false] at hm; omega)) (by unfold SL; rw [show (x_u2 (x_u2 (x_u2 (x_u2 F 8 0 sjn1_0) 22 v14.toNatClampNeg v16) 24 v14.toNatClampNeg (F 8 2)) 8 2 v46) 47 v14.toNatClampNeg = (F 47 v14.toNatClampNeg) from (by rw [u2_ne (by decide), u2_ne (by decide), u2_ne (by decide), u2_ne (by decide)]), show (x_u2 (x_u2 (x_u2 (x_u2 F 8 0 sjn1_0) 22 v14.toNatClampNeg v16) 24 v14.toNatClampNeg (F 8 2)) 8 2 v46) 48 v14.toNatClampNeg = (F 48 v14.toNatClampNeg) from (by rw [u2_ne (by decide), u2_ne (by decide), u2_ne (by decide), u2_ne (by decide)]), show (x_u2 (x_u2 (x_u2 (x_u2 F 8 0 sjn1_0) 22 v14.toNatClampNeg v16) 24 v14.toNatClampNeg (F 8 2)) 8 2 v46) 63 v14.toNatClampNeg = (F 63 v14.toNatClampNeg) from (by rw [u2_ne (by decide), u2_ne (by decide), u2_ne (by decide), u2_ne (by decide)]), show (x_u2 (x_u2 (x_u2 (x_u2 F 8 0 sjn1_0) 22 v14.toNatClampNeg v16) 24 v14.toNatClampNeg (F 8 2)) 8 2 v46) 55 v14.toNatClampNeg = (F 55 v14.toNatClampNeg) from (by rw [u2_ne (by decide), u2_ne (by decide), u2_ne (by decide), u2_ne (by decide)]), show (x_u2 (x_u2 (x_u2 (x_u2 F 8 0 sjn1_0) 22 v14.toNatClampNeg v16) 24 v14.toNatClampNeg (F 8 2)) 8 2 v46) 57 v14.toNatClampNeg = (F 57 v14.toNatClampNeg) from (by rw [u2_ne (by decide), u2_ne (by decide), u2_ne (by decide), u2_ne (by decide)]), show (x_u2 (x_u2 (x_u2 (x_u2 F 8 0 sjn1_0) 22 v14.toNatClampNeg v16) 24 v14.toNatClampNeg (F 8 2)) 8 2 v46) 24 v14.toNatClampNeg = (F 8 2) from (by rw [u2_ne (by decide), u2_eq])]; exact ⟨fun z => by omega, fun z => by omega, fun z => by omega, fun z => by omega⟩)), rfl, Or.inl ⟨X1, X2, X3, U⟩⟩)
            · skip
              refine q_aload rfl (by decide) ?_
              refine q_iload rfl ?_
              refine q_callv (j := 1) rfl (by decide) ⟨Nat.le_refl 1, Nat.le_of_eq S.1.symm⟩ (Nat.le_of_ble_eq_true rfl) (Nat.le_of_ble_eq_true rfl) (by show x_ce h + 0 ≤ 0; rw [S.2.2.1]; exact Nat.le_refl 0) (by show x_so h + 0 ≤ 0; rw [S.2.2.2]; exact Nat.le_refl 0) ?_
              refine xC.up (tv109 (h := x_setc h 0 0) (F := (x_u2 (x_u2 F 8 0 sjn1_0) 22 v14.toNatClampNeg v16)) (x1 := v14) S.set (by omega) (MX.put (K := 22) (i := v14.toNatClampNeg) (v := v16) (MX.putf (k := 0) (v := sjn1_0) M (fun lo hi hm => by simp only [mfl, List.mem_cons, Prod.mk.injEq, List.not_mem_nil, or_false] at hm; omega)) (fun lo hi hm => by simp only [mrl, List.mem_cons, Prod.mk.injEq, List.not_mem_nil, or_false] at hm; omega) (by decide) (fun z => absurd z (by decide)) (Or.inl rfl)) (by rw [show (x_u2 (x_u2 F 8 0 sjn1_0) 22 v14.toNatClampNeg v16) 47 v14.toNatClampNeg = (F 47 v14.toNatClampNeg) from (by rw [u2_ne (by decide), u2_ne (by decide)])]; omega) (⟨(3 * x1.toInt + v25.toInt).toNat, by omega, by omega, hI.2.1 (by omega) _ (by omega)⟩) (fun o48 F49 hp => ?_)) (by omega)
              obtain ⟨q52, rfl⟩ := hp
              show x_seq _ _ _ _ ([.inr (.inr (8, 1)), .inl x1, .inl x2, .inl v14, .inl (F 28 v14.toNatClampNeg)], [], mh h F49)
              refine q_goto ?_
              refine xR.blk c110_184 ?_
              exact q_ret (hZ _ _ ⟨q52.1, rfl, Or.inl ⟨X1, X2, (by rw [q52.2.1 8 0 rfl]; exact X3), fun t => (q52.2.1 22 t rfl).trans (U t)⟩⟩)
      · skip
        refine q_aload rfl (by decide) ?_
        refine m_gfr S (n := 72) (by decide) ?_
        refine q_iload rfl ?_
        refine m_ald (k := 29) (n := 72) S (by decide) (by omega) (by omega) ?_
        have e53 : 0 ≤ (F 47 (F 28 v14.toNatClampNeg).toNatClampNeg).toInt ∧ (F 47 (F 28 v14.toNatClampNeg).toNatClampNeg).toInt ≤ 5 := M.rg (lo := 0) (hi := 5) (by decide) _
        show x_seq _ _ _ _ ([.inr (.inr (8, 1)), .inl x1, .inl x2, .inl v14, .inl (F 28 v14.toNatClampNeg)], [.inl (F 47 (F 28 v14.toNatClampNeg).toNatClampNeg)], mh h (x_u2 (x_u2 F 8 0 sjn1_0) 22 v14.toNatClampNeg v16))
        refine v_iconst (k := 4) rfl (fun v54 e55 => ?_)
        refine v_icmp_ne (fun d56 => ?_) (fun d56 => ?_)
        · skip
          refine xR.blk c110_120 ?_
          refine q_aload rfl (by decide) ?_
          refine m_gfr S (n := 72) (by decide) ?_
          refine q_iload rfl ?_
          refine v_iconst (k := 0) rfl (fun v57 e58 => ?_)
          refine m_ast (k := 44) (n := 72) S (by decide) (by omega) (by omega) ?_
          show x_seq _ _ _ _ ([.inr (.inr (8, 1)), .inl x1, .inl x2, .inl v14, .inl (F 28 v14.toNatClampNeg)], [], mh h (x_u2 (x_u2 (x_u2 F 8 0 sjn1_0) 22 v14.toNatClampNeg v16) 62 (F 28 v14.toNatClampNeg).toNatClampNeg v57))
          refine q_goto ?_
          refine xR.blk c110_184 ?_
          exact q_ret (hZ _ _ ⟨(MX.put (K := 62) (i := (F 28 v14.toNatClampNeg).toNatClampNeg) (v := v57) (MX.put (K := 22) (i := v14.toNatClampNeg) (v := v16) (MX.putf (k := 0) (v := sjn1_0) M (fun lo hi hm => by simp only [mfl, List.mem_cons, Prod.mk.injEq, List.not_mem_nil, or_false] at hm; omega)) (fun lo hi hm => by simp only [mrl, List.mem_cons, Prod.mk.injEq, List.not_mem_nil, or_false] at hm; omega) (by decide) (fun z => absurd z (by decide)) (Or.inl rfl)) (fun lo hi hm => by simp only [mrl, List.mem_cons, Prod.mk.injEq, List.not_mem_nil, or_false] at hm; omega) (by decide) (fun z => absurd z (by decide)) (Or.inl rfl)), rfl, Or.inl ⟨X1, X2, X3, U⟩⟩)
        · skip
          have cc61 := x_clamp (n := (F 28 v14.toNatClampNeg)) (by omega)
          have sl60 : SL F (F 28 v14.toNatClampNeg).toNatClampNeg := M.2.2.2.1 _ (by omega) (by omega)
          unfold SL at sl60
          have M59 : MX (F 28 v14.toNatClampNeg).toNatClampNeg F := M.opn (by omega)
          refine q_aload rfl (by decide) ?_
          refine m_gfr S (n := 72) (by decide) ?_
          refine q_iload rfl ?_
          refine v_iconst (k := 5) rfl (fun v62 e63 => ?_)
          refine m_ast (k := 29) (n := 72) S (by decide) (by omega) (by omega) ?_
          show x_seq _ _ _ _ ([.inr (.inr (8, 1)), .inl x1, .inl x2, .inl v14, .inl (F 28 v14.toNatClampNeg)], [], mh h (x_u2 (x_u2 (x_u2 F 8 0 sjn1_0) 22 v14.toNatClampNeg v16) 47 (F 28 v14.toNatClampNeg).toNatClampNeg v62))
          refine q_aload rfl (by decide) ?_
          refine m_gfr S (n := 72) (by decide) ?_
          refine q_iload rfl ?_
          refine v_iconst (k := 0) rfl (fun v64 e65 => ?_)
          refine m_ast (k := 43) (n := 72) S (by decide) (by omega) (by omega) ?_
          show x_seq _ _ _ _ ([.inr (.inr (8, 1)), .inl x1, .inl x2, .inl v14, .inl (F 28 v14.toNatClampNeg)], [], mh h (x_u2 (x_u2 (x_u2 (x_u2 F 8 0 sjn1_0) 22 v14.toNatClampNeg v16) 47 (F 28 v14.toNatClampNeg).toNatClampNeg v62) 61 (F 28 v14.toNatClampNeg).toNatClampNeg v64))
          refine q_aload rfl (by decide) ?_
          refine m_gfr S (n := 72) (by decide) ?_
          refine q_iload rfl ?_
          refine q_aload rfl (by decide) ?_
          refine m_gfr S (n := 72) (by decide) ?_
          refine q_iload rfl ?_
          refine m_ald (k := 6) (n := 72) S (by decide) (by omega) (by omega) ?_
          show x_seq _ _ _ _ ([.inr (.inr (8, 1)), .inl x1, .inl x2, .inl v14, .inl (F 28 v14.toNatClampNeg)], [.inl (F 25 (F 28 v14.toNatClampNeg).toNatClampNeg), .inl (F 28 v14.toNatClampNeg), .inr (.inr (25, 1))], mh h (x_u2 (x_u2 (x_u2 (x_u2 F 8 0 sjn1_0) 22 v14.toNatClampNeg v16) 47 (F 28 v14.toNatClampNeg).toNatClampNeg v62) 61 (F 28 v14.toNatClampNeg).toNatClampNeg v64))
          refine q_aload rfl (by decide) ?_
          refine m_gfr S (n := 36) (by decide) ?_
          refine q_aload rfl (by decide) ?_
          refine m_gfr S (n := 72) (by decide) ?_
          refine q_iload rfl ?_
          refine m_ald (k := 40) (n := 72) S (by decide) (by omega) (by omega) ?_
          have e66 : 0 ≤ (F 58 (F 28 v14.toNatClampNeg).toNatClampNeg).toInt ∧ (F 58 (F 28 v14.toNatClampNeg).toNatClampNeg).toInt ≤ 35 := M59.rg (lo := 0) (hi := 35) (by decide) _
          show x_seq _ _ _ _ ([.inr (.inr (8, 1)), .inl x1, .inl x2, .inl v14, .inl (F 28 v14.toNatClampNeg)], [.inl (F 58 (F 28 v14.toNatClampNeg).toNatClampNeg), .inr (.inr (31, 1)), .inl (F 25 (F 28 v14.toNatClampNeg).toNatClampNeg), .inl (F 28 v14.toNatClampNeg), .inr (.inr (25, 1))], mh h (x_u2 (x_u2 (x_u2 (x_u2 F 8 0 sjn1_0) 22 v14.toNatClampNeg v16) 47 (F 28 v14.toNatClampNeg).toNatClampNeg v62) 61 (F 28 v14.toNatClampNeg).toNatClampNeg v64))
          refine m_ald (k := 12) (n := 36) S (by decide) (by omega) (by omega) ?_
          show x_seq _ _ _ _ ([.inr (.inr (8, 1)), .inl x1, .inl x2, .inl v14, .inl (F 28 v14.toNatClampNeg)], [.inl (F 31 (F 58 (F 28 v14.toNatClampNeg).toNatClampNeg).toNatClampNeg), .inl (F 25 (F 28 v14.toNatClampNeg).toNatClampNeg), .inl (F 28 v14.toNatClampNeg), .inr (.inr (25, 1))], mh h (x_u2 (x_u2 (x_u2 (x_u2 F 8 0 sjn1_0) 22 v14.toNatClampNeg v16) 47 (F 28 v14.toNatClampNeg).toNatClampNeg v62) 61 (F 28 v14.toNatClampNeg).toNatClampNeg v64))
          refine v_bin (fun v67 => ?_)
          refine m_ast (k := 6) (n := 72) S (by decide) (by omega) (by omega) ?_
          show x_seq _ _ _ _ ([.inr (.inr (8, 1)), .inl x1, .inl x2, .inl v14, .inl (F 28 v14.toNatClampNeg)], [], mh h (x_u2 (x_u2 (x_u2 (x_u2 (x_u2 F 8 0 sjn1_0) 22 v14.toNatClampNeg v16) 47 (F 28 v14.toNatClampNeg).toNatClampNeg v62) 61 (F 28 v14.toNatClampNeg).toNatClampNeg v64) 25 (F 28 v14.toNatClampNeg).toNatClampNeg v67))
          refine q_goto ?_
          refine xR.blk c110_120 ?_
          refine q_aload rfl (by decide) ?_
          refine m_gfr S (n := 72) (by decide) ?_
          refine q_iload rfl ?_
          refine v_iconst (k := 0) rfl (fun v69 e70 => ?_)
          refine m_ast (k := 44) (n := 72) S (by decide) (by omega) (by omega) ?_
          show x_seq _ _ _ _ ([.inr (.inr (8, 1)), .inl x1, .inl x2, .inl v14, .inl (F 28 v14.toNatClampNeg)], [], mh h (x_u2 (x_u2 (x_u2 (x_u2 (x_u2 (x_u2 F 8 0 sjn1_0) 22 v14.toNatClampNeg v16) 47 (F 28 v14.toNatClampNeg).toNatClampNeg v62) 61 (F 28 v14.toNatClampNeg).toNatClampNeg v64) 25 (F 28 v14.toNatClampNeg).toNatClampNeg v67) 62 (F 28 v14.toNatClampNeg).toNatClampNeg v69))
          refine q_goto ?_
          refine xR.blk c110_184 ?_
          exact q_ret (hZ _ _ ⟨(MX.close (MX.put (K := 62) (i := (F 28 v14.toNatClampNeg).toNatClampNeg) (v := v69) (MX.put (K := 25) (i := (F 28 v14.toNatClampNeg).toNatClampNeg) (v := v67) (MX.put (K := 61) (i := (F 28 v14.toNatClampNeg).toNatClampNeg) (v := v64) (MX.put (K := 47) (i := (F 28 v14.toNatClampNeg).toNatClampNeg) (v := v62) (MX.put (K := 22) (i := v14.toNatClampNeg) (v := v16) (MX.putf (k := 0) (v := sjn1_0) M59 (fun lo hi hm => by simp only [mfl, List.mem_cons, Prod.mk.injEq, List.not_mem_nil, or_false] at hm; omega)) (fun lo hi hm => by simp only [mrl, List.mem_cons, Prod.mk.injEq, List.not_mem_nil, or_false] at hm; omega) (by decide) (fun z => absurd z (by decide)) (Or.inl rfl)) (fun lo hi hm => by simp only [mrl, List.mem_cons, Prod.mk.injEq, List.not_mem_nil, or_false] at hm; omega) (by decide) (fun z => absurd z (by decide)) (Or.inr rfl)) (fun lo hi hm => by simp only [mrl, List.mem_cons, Prod.mk.injEq, List.not_mem_nil, or_false] at hm; omega) (by decide) (fun z => absurd z (by decide)) (Or.inl rfl)) (fun lo hi hm => by simp only [mrl, List.mem_cons, Prod.mk.injEq, List.not_mem_nil, or_false] at hm; omega) (by decide) (fun z => absurd z (by decide)) (Or.inl rfl)) (fun lo hi hm => by simp only [mrl, List.mem_cons, Prod.mk.injEq, List.not_mem_nil, or_false] at hm; omega) (by decide) (fun z => absurd z (by decide)) (Or.inl rfl)) (by unfold SL; rw [show (x_u2 (x_u2 (x_u2 (x_u2 (x_u2 (x_u2 F 8 0 sjn1_0) 22 v14.toNatClampNeg v16) 47 (F 28 v14.toNatClampNeg).toNatClampNeg v62) 61 (F 28 v14.toNatClampNeg).toNatClampNeg v64) 25 (F 28 v14.toNatClampNeg).toNatClampNeg v67) 62 (F 28 v14.toNatClampNeg).toNatClampNeg v69) 47 (F 28 v14.toNatClampNeg).toNatClampNeg = v62 from (by rw [u2_ne (by decide), u2_ne (by decide), u2_ne (by decide), u2_eq]), show (x_u2 (x_u2 (x_u2 (x_u2 (x_u2 (x_u2 F 8 0 sjn1_0) 22 v14.toNatClampNeg v16) 47 (F 28 v14.toNatClampNeg).toNatClampNeg v62) 61 (F 28 v14.toNatClampNeg).toNatClampNeg v64) 25 (F 28 v14.toNatClampNeg).toNatClampNeg v67) 62 (F 28 v14.toNatClampNeg).toNatClampNeg v69) 48 (F 28 v14.toNatClampNeg).toNatClampNeg = (F 48 (F 28 v14.toNatClampNeg).toNatClampNeg) from (by rw [u2_ne (by decide), u2_ne (by decide), u2_ne (by decide), u2_ne (by decide), u2_ne (by decide), u2_ne (by decide)]), show (x_u2 (x_u2 (x_u2 (x_u2 (x_u2 (x_u2 F 8 0 sjn1_0) 22 v14.toNatClampNeg v16) 47 (F 28 v14.toNatClampNeg).toNatClampNeg v62) 61 (F 28 v14.toNatClampNeg).toNatClampNeg v64) 25 (F 28 v14.toNatClampNeg).toNatClampNeg v67) 62 (F 28 v14.toNatClampNeg).toNatClampNeg v69) 63 (F 28 v14.toNatClampNeg).toNatClampNeg = (F 63 (F 28 v14.toNatClampNeg).toNatClampNeg) from (by rw [u2_ne (by decide), u2_ne (by decide), u2_ne (by decide), u2_ne (by decide), u2_ne (by decide), u2_ne (by decide)]), show (x_u2 (x_u2 (x_u2 (x_u2 (x_u2 (x_u2 F 8 0 sjn1_0) 22 v14.toNatClampNeg v16) 47 (F 28 v14.toNatClampNeg).toNatClampNeg v62) 61 (F 28 v14.toNatClampNeg).toNatClampNeg v64) 25 (F 28 v14.toNatClampNeg).toNatClampNeg v67) 62 (F 28 v14.toNatClampNeg).toNatClampNeg v69) 55 (F 28 v14.toNatClampNeg).toNatClampNeg = (F 55 (F 28 v14.toNatClampNeg).toNatClampNeg) from (by rw [u2_ne (by decide), u2_ne (by decide), u2_ne (by decide), u2_ne (by decide), u2_ne (by decide), u2_ne (by decide)]), show (x_u2 (x_u2 (x_u2 (x_u2 (x_u2 (x_u2 F 8 0 sjn1_0) 22 v14.toNatClampNeg v16) 47 (F 28 v14.toNatClampNeg).toNatClampNeg v62) 61 (F 28 v14.toNatClampNeg).toNatClampNeg v64) 25 (F 28 v14.toNatClampNeg).toNatClampNeg v67) 62 (F 28 v14.toNatClampNeg).toNatClampNeg v69) 57 (F 28 v14.toNatClampNeg).toNatClampNeg = (F 57 (F 28 v14.toNatClampNeg).toNatClampNeg) from (by rw [u2_ne (by decide), u2_ne (by decide), u2_ne (by decide), u2_ne (by decide), u2_ne (by decide), u2_ne (by decide)]), show (x_u2 (x_u2 (x_u2 (x_u2 (x_u2 (x_u2 F 8 0 sjn1_0) 22 v14.toNatClampNeg v16) 47 (F 28 v14.toNatClampNeg).toNatClampNeg v62) 61 (F 28 v14.toNatClampNeg).toNatClampNeg v64) 25 (F 28 v14.toNatClampNeg).toNatClampNeg v67) 62 (F 28 v14.toNatClampNeg).toNatClampNeg v69) 24 (F 28 v14.toNatClampNeg).toNatClampNeg = (F 24 (F 28 v14.toNatClampNeg).toNatClampNeg) from (by rw [u2_ne (by decide), u2_ne (by decide), u2_ne (by decide), u2_ne (by decide), u2_ne (by decide), u2_ne (by decide)])]; exact ⟨fun z => by omega, fun z => by omega, fun z => by omega, fun z => by omega⟩)), rfl, Or.inl ⟨X1, X2, X3, U⟩⟩)
    · skip
      exact q_ret (hZ _ _ ⟨(MX.putf (k := 0) (v := sjn1_0) M (fun lo hi hm => by simp only [mfl, List.mem_cons, Prod.mk.injEq, List.not_mem_nil, or_false] at hm; omega)), rfl, (by rcases kjn1_1 with ⟨y1, y2, y3⟩ | ⟨y1, y3⟩ | ⟨y1, y2, y3⟩; exact (by omega); exact Or.inr (Or.inl ⟨y1, y3, fun t => rfl⟩); exact Or.inr (Or.inr ⟨y1, y2, y3, fun t => rfl⟩))⟩)
  refine xR.blk c110_0 ?_
  refine q_aload rfl (by decide) ?_
  refine q_iload rfl ?_
  refine q_iload rfl ?_
  refine q_call (Nat.le_of_ble_eq_true rfl) (Nat.le_of_ble_eq_true rfl) (by show x_ce h + 0 ≤ 0; rw [S.2.2.1]; exact Nat.le_refl 0) (by show x_so h + 0 ≤ 0; rw [S.2.2.2]; exact Nat.le_refl 0) ?_
  refine xC.up (tv93 (h := x_setc h 0 0) (F := F) (x0 := x1) (x1 := x2) S.set  (fun o71 F72 hp => ?_)) (by omega)
  obtain ⟨hF75, ⟨v74, rfl, q73⟩⟩ := hp
  rw [hF75]
  show x_seq _ _ _ _ ([.inr (.inr (8, 1)), .inl x1, .inl x2, .inr (.inr (0, 0)), .inr (.inr (0, 0))], [.inl v74, .inr (.inr (8, 1))], mh h F)
  refine v_if_ne (fun d76 => ?_) (fun d76 => ?_)
  · skip
    refine xR.blk c110_13 ?_
    refine q_aload rfl (by decide) ?_
    refine m_gfr S (n := 72) (by decide) ?_
    refine v_iconst (k := 24) rfl (fun v77 e78 => ?_)
    refine q_iload rfl ?_
    refine v_imul' e78 (by omega) (fun v79 e80 => ?_)
    refine q_iload rfl ?_
    refine v_iadd (by omega) (fun v81 e82 => ?_)
    have hc1 := x_clamp (n := x1) (by omega)
    have hc2 := x_clamp (n := x2) (by omega)
    have hi9 : v81.toNatClampNeg = lx x1 x2 := by have := x_clamp (n := v81) (by omega); unfold lx; omega
    refine m_ald (k := 3) (n := 72) S (by decide) (by omega) (by omega) ?_
    refine v_if_eq (fun d83 => ?_) (fun d83 => ?_)
    · skip
      have d9 : (F 22 (lx x1 x2)).toInt = 0 := by rw [← hi9]; exact d83
      refine xR.blk c110_31 ?_
      refine v_iconst (k := 0) rfl (fun v84 e85 => ?_)
      refine q_goto ?_
      exact (jn1 v84 (by omega) (by omega)).up (by omega)
    · skip
      have d9 : (F 22 (lx x1 x2)).toInt ≠ 0 := by rw [← hi9]; exact d83
      refine v_iconst (k := 2) rfl (fun v86 e87 => ?_)
      refine q_goto ?_
      exact (jn1 v86 (by omega) (by omega)).up (by omega)
  · skip
    refine v_iconst (k := 1) rfl (fun v88 e89 => ?_)
    refine q_goto ?_
    exact (jn1 v88 (by omega) (by omega)).up (by omega)
theorem tx111 {h : xH} {Z : xO → xH → Prop} {F : xF} {x1 : Int32} {x2 : Int32} (S : MS h) (M : MX 72 F) (hZ : ∀ (o : xO) (F' : xF), (MX 72 F') ∧ o = .inl none ∧ (((0 ≤ x1.toInt ∧ x1.toInt ≤ 2 ∧ 0 ≤ x2.toInt ∧ x2.toInt ≤ 23) ∧ (F 22 (lx x1 x2)).toInt ≠ 0 ∧ (F' 8 0).toInt = 0 ∧ ∀ t, F' 22 t = upl (F 22) (lx x1 x2) 0 t) ∨ (¬ (0 ≤ x1.toInt ∧ x1.toInt ≤ 2 ∧ 0 ≤ x2.toInt ∧ x2.toInt ≤ 23) ∧ (F' 8 0).toInt = 1 ∧ ∀ t, F' 22 t = F 22 t) ∨ ((0 ≤ x1.toInt ∧ x1.toInt ≤ 2 ∧ 0 ≤ x2.toInt ∧ x2.toInt ≤ 23) ∧ (F 22 (lx x1 x2)).toInt = 0 ∧ (F' 8 0).toInt = 2 ∧ ∀ t, F' 22 t = F 22 t)) → Z o (mh h F')) : xC 13000 111 [.inr (.inr (8, 1)), .inl x1, .inl x2] (mh h F) Z := by
  refine ⟨rfl, S.2.2.1, S.2.2.2, ?_⟩
  show xR _ 111 0 ([.inr (.inr (8, 1)), .inl x1, .inl x2, .inr (.inr (0, 0))], [], mh h F) Z
  have jn1 : ∀ (sjn1_0 : Int32), (0 ≤ sjn1_0.toInt ∧ sjn1_0.toInt ≤ 2) → (((0 ≤ x1.toInt ∧ x1.toInt ≤ 2 ∧ 0 ≤ x2.toInt ∧ x2.toInt ≤ 23) ∧ (F 22 (lx x1 x2)).toInt ≠ 0 ∧ sjn1_0.toInt = 0) ∨ (¬ (0 ≤ x1.toInt ∧ x1.toInt ≤ 2 ∧ 0 ≤ x2.toInt ∧ x2.toInt ≤ 23) ∧ sjn1_0.toInt = 1) ∨ ((0 ≤ x1.toInt ∧ x1.toInt ≤ 2 ∧ 0 ≤ x2.toInt ∧ x2.toInt ≤ 23) ∧ (F 22 (lx x1 x2)).toInt = 0 ∧ sjn1_0.toInt = 2)) → xR (12000) 111 32 ([.inr (.inr (8, 1)), .inl x1, .inl x2, .inr (.inr (0, 0))], [.inl sjn1_0, .inr (.inr (8, 1))], mh h F) Z := by
    intro sjn1_0 kjn1_0 kjn1_1
    refine xR.blk c111_32 ?_
    refine q_callv (j := 1) rfl (by decide) ⟨Nat.le_refl 1, Nat.le_of_eq S.1.symm⟩ (Nat.le_of_ble_eq_true rfl) (Nat.le_of_ble_eq_true rfl) (by show x_ce h + 0 ≤ 0; rw [S.2.2.1]; exact Nat.le_refl 0) (by show x_so h + 0 ≤ 0; rw [S.2.2.2]; exact Nat.le_refl 0) ?_
    refine xC.up (tv91 (h := x_setc h 0 0) (F := F) (x1 := sjn1_0) S.set  (fun o4 F5 hp => ?_)) (by omega)
    obtain ⟨q8, ⟨v7, rfl, q6⟩⟩ := hp
    subst q8
    show x_seq _ _ _ _ ([.inr (.inr (8, 1)), .inl x1, .inl x2, .inr (.inr (0, 0))], [.inl v7], mh h (x_u2 F 8 0 sjn1_0))
    refine v_if_eq (fun d9 => ?_) (fun d9 => ?_)
    · skip
      have X0 : (0 ≤ x1.toInt ∧ x1.toInt ≤ 2 ∧ 0 ≤ x2.toInt ∧ x2.toInt ≤ 23) ∧ (F 22 (lx x1 x2)).toInt ≠ 0 ∧ sjn1_0.toInt = 0 := by omega
      clear kjn1_1
      obtain ⟨X1, X2, X3⟩ := X0
      have hc1 := x_clamp (n := x1) (by omega)
      have hc2 := x_clamp (n := x2) (by omega)
      refine xR.blk c111_39 ?_
      refine v_iconst (k := 24) rfl (fun v10 e11 => ?_)
      refine q_iload rfl ?_
      refine v_imul' e11 (by omega) (fun v12 e13 => ?_)
      refine q_iload rfl ?_
      refine v_iadd (by omega) (fun v14 e15 => ?_)
      have hi9 : v14.toNatClampNeg = lx x1 x2 := by have := x_clamp (n := v14) (by omega); unfold lx; omega
      refine q_istore (Nat.le_of_ble_eq_true rfl) ?_
      show x_seq _ _ _ _ ([.inr (.inr (8, 1)), .inl x1, .inl x2, .inl v14], [], mh h (x_u2 F 8 0 sjn1_0))
      refine q_aload rfl (by decide) ?_
      refine m_gfr S (n := 72) (by decide) ?_
      refine q_iload rfl ?_
      refine v_iconst (k := 0) rfl (fun v16 e17 => ?_)
      have U : ∀ t, (if 22 = 22 ∧ t = v14.toNatClampNeg then v16 else F 22 t) = upl (F 22) (lx x1 x2) 0 t := by
        intro t
        show _ = if t = lx x1 x2 then 0 else F 22 t
        rw [hi9, show v16 = 0 from i32_eq.mpr e17]
        by_cases e9 : t = lx x1 x2
        · rw [if_pos ⟨rfl, e9⟩, if_pos e9]
        · rw [if_neg (fun y => e9 y.2), if_neg e9]
      refine m_zst (k := 3) (n := 72) S (by decide) (by omega) (by omega) (i32_01 (by omega)) ?_
      show x_seq _ _ _ _ ([.inr (.inr (8, 1)), .inl x1, .inl x2, .inl v14], [], mh h (x_u2 (x_u2 F 8 0 sjn1_0) 22 v14.toNatClampNeg v16))
      refine q_aload rfl (by decide) ?_
      refine m_gfr S (n := 72) (by decide) ?_
      refine q_iload rfl ?_
      refine v_iconst (k := 0) rfl (fun v18 e19 => ?_)
      refine m_ast (k := 4) (n := 72) S (by decide) (by omega) (by omega) ?_
      show x_seq _ _ _ _ ([.inr (.inr (8, 1)), .inl x1, .inl x2, .inl v14], [], mh h (x_u2 (x_u2 (x_u2 F 8 0 sjn1_0) 22 v14.toNatClampNeg v16) 23 v14.toNatClampNeg v18))
      refine q_aload rfl (by decide) ?_
      refine m_gfr S (n := 72) (by decide) ?_
      refine q_iload rfl ?_
      refine v_iconst (k := -1) rfl (fun v20 e21 => ?_)
      refine m_ast (k := 5) (n := 72) S (by decide) (by omega) (by omega) ?_
      show x_seq _ _ _ _ ([.inr (.inr (8, 1)), .inl x1, .inl x2, .inl v14], [], mh h (x_u2 (x_u2 (x_u2 (x_u2 F 8 0 sjn1_0) 22 v14.toNatClampNeg v16) 23 v14.toNatClampNeg v18) 24 v14.toNatClampNeg v20))
      refine q_aload rfl (by decide) ?_
      refine m_gfr S (n := 72) (by decide) ?_
      refine q_iload rfl ?_
      refine m_ald (k := 29) (n := 72) S (by decide) (by omega) (by omega) ?_
      have e22 : 0 ≤ (F 47 v14.toNatClampNeg).toInt ∧ (F 47 v14.toNatClampNeg).toInt ≤ 5 := M.rg (lo := 0) (hi := 5) (by decide) _
      show x_seq _ _ _ _ ([.inr (.inr (8, 1)), .inl x1, .inl x2, .inl v14], [.inl (F 47 v14.toNatClampNeg)], mh h (x_u2 (x_u2 (x_u2 (x_u2 F 8 0 sjn1_0) 22 v14.toNatClampNeg v16) 23 v14.toNatClampNeg v18) 24 v14.toNatClampNeg v20))
      refine v_if_eq (fun d23 => ?_) (fun d23 => ?_)
      · skip
        refine xR.blk c111_104 ?_
        refine q_aload rfl (by decide) ?_
        refine m_gfr S (n := 72) (by decide) ?_
        refine q_iload rfl ?_
        refine m_ald (k := 9) (n := 72) S (by decide) (by omega) (by omega) ?_
        have e24 : -1 ≤ (F 28 v14.toNatClampNeg).toInt ∧ (F 28 v14.toNatClampNeg).toInt ≤ 71 := M.rg (lo := -1) (hi := 71) (by decide) _
        show x_seq _ _ _ _ ([.inr (.inr (8, 1)), .inl x1, .inl x2, .inl v14], [.inl (F 28 v14.toNatClampNeg)], mh h (x_u2 (x_u2 (x_u2 (x_u2 F 8 0 sjn1_0) 22 v14.toNatClampNeg v16) 23 v14.toNatClampNeg v18) 24 v14.toNatClampNeg v20))
        refine v_if_lt (fun d25 => ?_) (fun d25 => ?_)
        · skip
          refine xR.blk c111_125 ?_
          exact q_ret (hZ _ _ ⟨(MX.putW (i := v14.toNatClampNeg) (v := v20) (MX.put (K := 23) (i := v14.toNatClampNeg) (v := v18) (MX.put (K := 22) (i := v14.toNatClampNeg) (v := v16) (MX.putf (k := 0) (v := sjn1_0) M (fun lo hi hm => by simp only [mfl, List.mem_cons, Prod.mk.injEq, List.not_mem_nil, or_false] at hm; omega)) (fun lo hi hm => by simp only [mrl, List.mem_cons, Prod.mk.injEq, List.not_mem_nil, or_false] at hm; omega) (by decide) (fun z => absurd z (by decide)) (Or.inl rfl)) (fun lo hi hm => by simp only [mrl, List.mem_cons, Prod.mk.injEq, List.not_mem_nil, or_false] at hm; omega) (by decide) (fun z => absurd z (by decide)) (Or.inl rfl)) (by omega)), rfl, Or.inl ⟨X1, X2, X3, U⟩⟩)
        · skip
          refine q_aload rfl (by decide) ?_
          refine m_gfr S (n := 72) (by decide) ?_
          refine q_aload rfl (by decide) ?_
          refine m_gfr S (n := 72) (by decide) ?_
          refine q_iload rfl ?_
          refine m_ald (k := 9) (n := 72) S (by decide) (by omega) (by omega) ?_
          have e26 : -1 ≤ (F 28 v14.toNatClampNeg).toInt ∧ (F 28 v14.toNatClampNeg).toInt ≤ 71 := M.rg (lo := -1) (hi := 71) (by decide) _
          show x_seq _ _ _ _ ([.inr (.inr (8, 1)), .inl x1, .inl x2, .inl v14], [.inl (F 28 v14.toNatClampNeg), .inr (.inr (62, 1))], mh h (x_u2 (x_u2 (x_u2 (x_u2 F 8 0 sjn1_0) 22 v14.toNatClampNeg v16) 23 v14.toNatClampNeg v18) 24 v14.toNatClampNeg v20))
          refine v_iconst (k := 0) rfl (fun v27 e28 => ?_)
          refine m_ast (k := 44) (n := 72) S (by decide) (by omega) (by omega) ?_
          show x_seq _ _ _ _ ([.inr (.inr (8, 1)), .inl x1, .inl x2, .inl v14], [], mh h (x_u2 (x_u2 (x_u2 (x_u2 (x_u2 F 8 0 sjn1_0) 22 v14.toNatClampNeg v16) 23 v14.toNatClampNeg v18) 24 v14.toNatClampNeg v20) 62 (F 28 v14.toNatClampNeg).toNatClampNeg v27))
          refine q_goto ?_
          refine xR.blk c111_125 ?_
          exact q_ret (hZ _ _ ⟨(MX.put (K := 62) (i := (F 28 v14.toNatClampNeg).toNatClampNeg) (v := v27) (MX.putW (i := v14.toNatClampNeg) (v := v20) (MX.put (K := 23) (i := v14.toNatClampNeg) (v := v18) (MX.put (K := 22) (i := v14.toNatClampNeg) (v := v16) (MX.putf (k := 0) (v := sjn1_0) M (fun lo hi hm => by simp only [mfl, List.mem_cons, Prod.mk.injEq, List.not_mem_nil, or_false] at hm; omega)) (fun lo hi hm => by simp only [mrl, List.mem_cons, Prod.mk.injEq, List.not_mem_nil, or_false] at hm; omega) (by decide) (fun z => absurd z (by decide)) (Or.inl rfl)) (fun lo hi hm => by simp only [mrl, List.mem_cons, Prod.mk.injEq, List.not_mem_nil, or_false] at hm; omega) (by decide) (fun z => absurd z (by decide)) (Or.inl rfl)) (by omega)) (fun lo hi hm => by simp only [mrl, List.mem_cons, Prod.mk.injEq, List.not_mem_nil, or_false] at hm; omega) (by decide) (fun z => absurd z (by decide)) (Or.inl rfl)), rfl, Or.inl ⟨X1, X2, X3, U⟩⟩)
      · skip
        refine q_aload rfl (by decide) ?_
        refine m_gfr S (n := 72) (by decide) ?_
        refine q_iload rfl ?_
        refine m_ald (k := 29) (n := 72) S (by decide) (by omega) (by omega) ?_
        have e29 : 0 ≤ (F 47 v14.toNatClampNeg).toInt ∧ (F 47 v14.toNatClampNeg).toInt ≤ 5 := M.rg (lo := 0) (hi := 5) (by decide) _
        show x_seq _ _ _ _ ([.inr (.inr (8, 1)), .inl x1, .inl x2, .inl v14], [.inl (F 47 v14.toNatClampNeg)], mh h (x_u2 (x_u2 (x_u2 (x_u2 F 8 0 sjn1_0) 22 v14.toNatClampNeg v16) 23 v14.toNatClampNeg v18) 24 v14.toNatClampNeg v20))
        refine v_iconst (k := 5) rfl (fun v30 e31 => ?_)
        refine v_icmp_ne (fun d32 => ?_) (fun d32 => ?_)
        · skip
          refine xR.blk c111_95 ?_
          refine q_aload rfl (by decide) ?_
          refine q_iload rfl ?_
          refine v_iconst (k := 3) rfl (fun v33 e34 => ?_)
          refine q_callv (j := 1) rfl (by decide) ⟨Nat.le_refl 1, Nat.le_of_eq S.1.symm⟩ (Nat.le_of_ble_eq_true rfl) (Nat.le_of_ble_eq_true rfl) (by show x_ce h + 0 ≤ 0; rw [S.2.2.1]; exact Nat.le_refl 0) (by show x_so h + 0 ≤ 0; rw [S.2.2.2]; exact Nat.le_refl 0) ?_
          refine xC.up (tv106 (h := x_setc h 0 0) (F := (x_u2 (x_u2 (x_u2 (x_u2 F 8 0 sjn1_0) 22 v14.toNatClampNeg v16) 23 v14.toNatClampNeg v18) 24 v14.toNatClampNeg v20)) (x1 := v14) (x2 := v33) S.set (by omega) (MX.putW (i := v14.toNatClampNeg) (v := v20) (MX.put (K := 23) (i := v14.toNatClampNeg) (v := v18) (MX.put (K := 22) (i := v14.toNatClampNeg) (v := v16) (MX.putf (k := 0) (v := sjn1_0) M (fun lo hi hm => by simp only [mfl, List.mem_cons, Prod.mk.injEq, List.not_mem_nil, or_false] at hm; omega)) (fun lo hi hm => by simp only [mrl, List.mem_cons, Prod.mk.injEq, List.not_mem_nil, or_false] at hm; omega) (by decide) (fun z => absurd z (by decide)) (Or.inl rfl)) (fun lo hi hm => by simp only [mrl, List.mem_cons, Prod.mk.injEq, List.not_mem_nil, or_false] at hm; omega) (by decide) (fun z => absurd z (by decide)) (Or.inl rfl)) (by omega)) (fun o35 F36 hp => ?_)) (by omega)
          obtain ⟨q39, rfl⟩ := hp
          show x_seq _ _ _ _ ([.inr (.inr (8, 1)), .inl x1, .inl x2, .inl v14], [], mh h F36)
          refine q_goto ?_
          refine xR.blk c111_125 ?_
          exact q_ret (hZ _ _ ⟨q39.1, rfl, Or.inl ⟨X1, X2, (by rw [q39.2 8 0 rfl]; exact X3), fun t => (q39.2 22 t rfl).trans (U t)⟩⟩)
        · skip
          refine q_aload rfl (by decide) ?_
          refine m_gfr S (n := 72) (by decide) ?_
          refine q_iload rfl ?_
          refine m_ald (k := 42) (n := 72) S (by decide) (by omega) (by omega) ?_
          show x_seq _ _ _ _ ([.inr (.inr (8, 1)), .inl x1, .inl x2, .inl v14], [.inl (F 60 v14.toNatClampNeg)], mh h (x_u2 (x_u2 (x_u2 (x_u2 F 8 0 sjn1_0) 22 v14.toNatClampNeg v16) 23 v14.toNatClampNeg v18) 24 v14.toNatClampNeg v20))
          refine v_if_ne (fun d40 => ?_) (fun d40 => ?_)
          · skip
            refine xR.blk c111_125 ?_
            exact q_ret (hZ _ _ ⟨(MX.putW (i := v14.toNatClampNeg) (v := v20) (MX.put (K := 23) (i := v14.toNatClampNeg) (v := v18) (MX.put (K := 22) (i := v14.toNatClampNeg) (v := v16) (MX.putf (k := 0) (v := sjn1_0) M (fun lo hi hm => by simp only [mfl, List.mem_cons, Prod.mk.injEq, List.not_mem_nil, or_false] at hm; omega)) (fun lo hi hm => by simp only [mrl, List.mem_cons, Prod.mk.injEq, List.not_mem_nil, or_false] at hm; omega) (by decide) (fun z => absurd z (by decide)) (Or.inl rfl)) (fun lo hi hm => by simp only [mrl, List.mem_cons, Prod.mk.injEq, List.not_mem_nil, or_false] at hm; omega) (by decide) (fun z => absurd z (by decide)) (Or.inl rfl)) (by omega)), rfl, Or.inl ⟨X1, X2, X3, U⟩⟩)
          · skip
            refine q_goto ?_
            refine xR.blk c111_95 ?_
            refine q_aload rfl (by decide) ?_
            refine q_iload rfl ?_
            refine v_iconst (k := 3) rfl (fun v41 e42 => ?_)
            refine q_callv (j := 1) rfl (by decide) ⟨Nat.le_refl 1, Nat.le_of_eq S.1.symm⟩ (Nat.le_of_ble_eq_true rfl) (Nat.le_of_ble_eq_true rfl) (by show x_ce h + 0 ≤ 0; rw [S.2.2.1]; exact Nat.le_refl 0) (by show x_so h + 0 ≤ 0; rw [S.2.2.2]; exact Nat.le_refl 0) ?_
            refine xC.up (tv106 (h := x_setc h 0 0) (F := (x_u2 (x_u2 (x_u2 (x_u2 F 8 0 sjn1_0) 22 v14.toNatClampNeg v16) 23 v14.toNatClampNeg v18) 24 v14.toNatClampNeg v20)) (x1 := v14) (x2 := v41) S.set (by omega) (MX.putW (i := v14.toNatClampNeg) (v := v20) (MX.put (K := 23) (i := v14.toNatClampNeg) (v := v18) (MX.put (K := 22) (i := v14.toNatClampNeg) (v := v16) (MX.putf (k := 0) (v := sjn1_0) M (fun lo hi hm => by simp only [mfl, List.mem_cons, Prod.mk.injEq, List.not_mem_nil, or_false] at hm; omega)) (fun lo hi hm => by simp only [mrl, List.mem_cons, Prod.mk.injEq, List.not_mem_nil, or_false] at hm; omega) (by decide) (fun z => absurd z (by decide)) (Or.inl rfl)) (fun lo hi hm => by simp only [mrl, List.mem_cons, Prod.mk.injEq, List.not_mem_nil, or_false] at hm; omega) (by decide) (fun z => absurd z (by decide)) (Or.inl rfl)) (by omega)) (fun o43 F44 hp => ?_)) (by omega)
            obtain ⟨q47, rfl⟩ := hp
            show x_seq _ _ _ _ ([.inr (.inr (8, 1)), .inl x1, .inl x2, .inl v14], [], mh h F44)
            refine q_goto ?_
            refine xR.blk c111_125 ?_
            exact q_ret (hZ _ _ ⟨q47.1, rfl, Or.inl ⟨X1, X2, (by rw [q47.2 8 0 rfl]; exact X3), fun t => (q47.2 22 t rfl).trans (U t)⟩⟩)
    · skip
      exact q_ret (hZ _ _ ⟨(MX.putf (k := 0) (v := sjn1_0) M (fun lo hi hm => by simp only [mfl, List.mem_cons, Prod.mk.injEq, List.not_mem_nil, or_false] at hm; omega)), rfl, (by rcases kjn1_1 with ⟨y1, y2, y3⟩ | ⟨y1, y3⟩ | ⟨y1, y2, y3⟩; exact (by omega); exact Or.inr (Or.inl ⟨y1, y3, fun t => rfl⟩); exact Or.inr (Or.inr ⟨y1, y2, y3, fun t => rfl⟩))⟩)
  refine xR.blk c111_0 ?_
  refine q_aload rfl (by decide) ?_
  refine q_iload rfl ?_
  refine q_iload rfl ?_
  refine q_call (Nat.le_of_ble_eq_true rfl) (Nat.le_of_ble_eq_true rfl) (by show x_ce h + 0 ≤ 0; rw [S.2.2.1]; exact Nat.le_refl 0) (by show x_so h + 0 ≤ 0; rw [S.2.2.2]; exact Nat.le_refl 0) ?_
  refine xC.up (tv93 (h := x_setc h 0 0) (F := F) (x0 := x1) (x1 := x2) S.set  (fun o48 F49 hp => ?_)) (by omega)
  obtain ⟨hF52, ⟨v51, rfl, q50⟩⟩ := hp
  rw [hF52]
  show x_seq _ _ _ _ ([.inr (.inr (8, 1)), .inl x1, .inl x2, .inr (.inr (0, 0))], [.inl v51, .inr (.inr (8, 1))], mh h F)
  refine v_if_ne (fun d53 => ?_) (fun d53 => ?_)
  · skip
    refine xR.blk c111_13 ?_
    refine q_aload rfl (by decide) ?_
    refine m_gfr S (n := 72) (by decide) ?_
    refine v_iconst (k := 24) rfl (fun v54 e55 => ?_)
    refine q_iload rfl ?_
    refine v_imul' e55 (by omega) (fun v56 e57 => ?_)
    refine q_iload rfl ?_
    refine v_iadd (by omega) (fun v58 e59 => ?_)
    have hc1 := x_clamp (n := x1) (by omega)
    have hc2 := x_clamp (n := x2) (by omega)
    have hi9 : v58.toNatClampNeg = lx x1 x2 := by have := x_clamp (n := v58) (by omega); unfold lx; omega
    refine m_ald (k := 3) (n := 72) S (by decide) (by omega) (by omega) ?_
    refine v_if_ne (fun d60 => ?_) (fun d60 => ?_)
    · skip
      have d9 : (F 22 (lx x1 x2)).toInt ≠ 0 := by rw [← hi9]; exact d60
      refine xR.blk c111_31 ?_
      refine v_iconst (k := 0) rfl (fun v61 e62 => ?_)
      refine q_goto ?_
      exact (jn1 v61 (by omega) (by omega)).up (by omega)
    · skip
      have d9 : (F 22 (lx x1 x2)).toInt = 0 := by rw [← hi9]; exact d60
      refine v_iconst (k := 2) rfl (fun v63 e64 => ?_)
      refine q_goto ?_
      exact (jn1 v63 (by omega) (by omega)).up (by omega)
  · skip
    refine v_iconst (k := 1) rfl (fun v65 e66 => ?_)
    refine q_goto ?_
    exact (jn1 v65 (by omega) (by omega)).up (by omega)
