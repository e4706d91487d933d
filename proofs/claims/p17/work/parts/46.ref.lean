theorem tv94 {h : xH} {Z : xO → xH → Prop} {F : xF} {x1 : Int32} {x2 : Int32} (S : MS h) (M : MX 72 F) (hZ : ∀ (o : xO) (F' : xF), (MX 72 F') ∧ (∃ v : Int32, o = .inl (some (.inl v))) → Z o (mh h F')) : xC 100 94 [.inr (.inr (8, 1)), .inl x1, .inl x2] (mh h F) Z := by
  refine ⟨rfl, S.2.2.1, S.2.2.2, ?_⟩
  show xR _ 94 0 ([.inr (.inr (8, 1)), .inl x1, .inl x2], [], mh h F) Z
  have jn1 : ∀ (sjn1_0 : Int32), (0 ≤ sjn1_0.toInt ∧ sjn1_0.toInt ≤ 2) → (sjn1_0.toInt = 0 → (F 8 20).toInt ≤ 15) → xR (90) 94 42 ([.inr (.inr (8, 1)), .inl x1, .inl x2], [.inl sjn1_0, .inr (.inr (8, 1))], mh h F) Z := by
    intro sjn1_0 kjn1_0 kjn1_1
    refine xR.blk c94_42 ?_
    refine q_callv (j := 1) rfl (by decide) ⟨Nat.le_refl 1, Nat.le_of_eq S.1.symm⟩ (Nat.le_of_ble_eq_true rfl) (Nat.le_of_ble_eq_true rfl) (by show x_ce h + 0 ≤ 0; rw [S.2.2.1]; exact Nat.le_refl 0) (by show x_so h + 0 ≤ 0; rw [S.2.2.2]; exact Nat.le_refl 0) ?_
    refine xC.up (tv91 (h := x_setc h 0 0) (F := F) (x1 := sjn1_0) S.set  (fun o4 F5 hp => ?_)) (by omega)
    obtain ⟨q8, ⟨v7, rfl, q6⟩⟩ := hp
    subst q8
    show x_seq _ _ _ _ ([.inr (.inr (8, 1)), .inl x1, .inl x2], [.inl v7], mh h (x_u2 F 8 0 sjn1_0))
    refine v_if_eq (fun d9 => ?_) (fun d9 => ?_)
    · skip
      refine xR.blk c94_50 ?_
      refine q_aload rfl (by decide) ?_
      refine m_gfr S (n := 16) (by decide) ?_
      refine q_aload rfl (by decide) ?_
      refine m_gfi S ?_
      have e10 : 0 ≤ (F 8 20).toInt ∧ (F 8 20).toInt ≤ 16 := M.fl (lo := 0) (hi := 16) (by decide)
      show x_seq _ _ _ _ ([.inr (.inr (8, 1)), .inl x1, .inl x2], [.inl (F 8 20), .inr (.inr (39, 1))], mh h (x_u2 F 8 0 sjn1_0))
      refine q_iload rfl ?_
      refine m_ast (k := 21) (n := 16) S (by decide) (by omega) (by omega) ?_
      show x_seq _ _ _ _ ([.inr (.inr (8, 1)), .inl x1, .inl x2], [], mh h (x_u2 (x_u2 F 8 0 sjn1_0) 39 (F 8 20).toNatClampNeg x1))
      refine q_aload rfl (by decide) ?_
      refine m_gfr S (n := 16) (by decide) ?_
      refine q_aload rfl (by decide) ?_
      refine m_gfi S ?_
      have e11 : 0 ≤ (F 8 20).toInt ∧ (F 8 20).toInt ≤ 16 := M.fl (lo := 0) (hi := 16) (by decide)
      show x_seq _ _ _ _ ([.inr (.inr (8, 1)), .inl x1, .inl x2], [.inl (F 8 20), .inr (.inr (40, 1))], mh h (x_u2 (x_u2 F 8 0 sjn1_0) 39 (F 8 20).toNatClampNeg x1))
      refine q_iload rfl ?_
      refine m_ast (k := 22) (n := 16) S (by decide) (by omega) (by omega) ?_
      show x_seq _ _ _ _ ([.inr (.inr (8, 1)), .inl x1, .inl x2], [], mh h (x_u2 (x_u2 (x_u2 F 8 0 sjn1_0) 39 (F 8 20).toNatClampNeg x1) 40 (F 8 20).toNatClampNeg x2))
      refine q_aload rfl (by decide) ?_
      refine q_dup rfl ?_
      refine m_gfi S ?_
      have e12 : 0 ≤ (F 8 20).toInt ∧ (F 8 20).toInt ≤ 16 := M.fl (lo := 0) (hi := 16) (by decide)
      show x_seq _ _ _ _ ([.inr (.inr (8, 1)), .inl x1, .inl x2], [.inl (F 8 20), .inr (.inr (8, 1))], mh h (x_u2 (x_u2 (x_u2 F 8 0 sjn1_0) 39 (F 8 20).toNatClampNeg x1) 40 (F 8 20).toNatClampNeg x2))
      refine v_iconst (k := 1) rfl (fun v13 e14 => ?_)
      refine v_iadd (by omega) (fun v15 e16 => ?_)
      refine m_pfi S ?_
      show x_seq _ _ _ _ ([.inr (.inr (8, 1)), .inl x1, .inl x2], [], mh h (x_u2 (x_u2 (x_u2 (x_u2 F 8 0 sjn1_0) 39 (F 8 20).toNatClampNeg x1) 40 (F 8 20).toNatClampNeg x2) 8 20 v15))
      refine q_aload rfl (by decide) ?_
      refine m_gfi S ?_
      show x_seq _ _ _ _ ([.inr (.inr (8, 1)), .inl x1, .inl x2], [.inl v15], mh h (x_u2 (x_u2 (x_u2 (x_u2 F 8 0 sjn1_0) 39 (F 8 20).toNatClampNeg x1) 40 (F 8 20).toNatClampNeg x2) 8 20 v15))
      refine v_iconst (k := 1) rfl (fun v17 e18 => ?_)
      refine v_isub (by omega) (fun v19 e20 => ?_)
      exact q_iret (hZ _ _ ⟨(MX.putf (k := 20) (v := v15) (MX.put (K := 40) (i := (F 8 20).toNatClampNeg) (v := x2) (MX.put (K := 39) (i := (F 8 20).toNatClampNeg) (v := x1) (MX.putf (k := 0) (v := sjn1_0) M (fun lo hi hm => by simp only [mfl, List.mem_cons, Prod.mk.injEq, List.not_mem_nil, or_false] at hm; omega)) (fun lo hi hm => by simp only [mrl, List.mem_cons, Prod.mk.injEq, List.not_mem_nil, or_false] at hm; omega) (by decide) (fun z => absurd z (by decide)) (Or.inl rfl)) (fun lo hi hm => by simp only [mrl, List.mem_cons, Prod.mk.injEq, List.not_mem_nil, or_false] at hm; omega) (by decide) (fun z => absurd z (by decide)) (Or.inl rfl)) (fun lo hi hm => by simp only [mfl, List.mem_cons, Prod.mk.injEq, List.not_mem_nil, or_false] at hm; omega)), ⟨_, rfl⟩⟩)
    · skip
      refine v_iconst (k := 0) rfl (fun v21 e22 => ?_)
      exact q_iret (hZ _ _ ⟨(MX.putf (k := 0) (v := sjn1_0) M (fun lo hi hm => by simp only [mfl, List.mem_cons, Prod.mk.injEq, List.not_mem_nil, or_false] at hm; omega)), ⟨_, rfl⟩⟩)
  refine xR.blk c94_0 ?_
  refine q_aload rfl (by decide) ?_
  refine q_iload rfl ?_
  refine v_iconst (k := 0) rfl (fun v23 e24 => ?_)
  refine v_iconst (k := 2) rfl (fun v25 e26 => ?_)
  refine q_call (Nat.le_of_ble_eq_true rfl) (Nat.le_of_ble_eq_true rfl) (by show x_ce h + 0 ≤ 0; rw [S.2.2.1]; exact Nat.le_refl 0) (by show x_so h + 0 ≤ 0; rw [S.2.2.2]; exact Nat.le_refl 0) ?_
  refine xC.up (tv92 (h := x_setc h 0 0) (F := F) (x0 := x1) (x1 := v23) (x2 := v25) S.set  (fun o27 F28 hp => ?_)) (by omega)
  obtain ⟨hF31, ⟨v30, rfl, q29⟩⟩ := hp
  rw [hF31]
  show x_seq _ _ _ _ ([.inr (.inr (8, 1)), .inl x1, .inl x2], [.inl v30, .inr (.inr (8, 1))], mh h F)
  refine v_if_eq (fun d32 => ?_) (fun d32 => ?_)
  · skip
    refine xR.blk c94_24 ?_
    refine v_iconst (k := 1) rfl (fun v33 e34 => ?_)
    refine q_goto ?_
    exact (jn1 v33 (by omega) (by omega)).up (by omega)
  · skip
    refine q_iload rfl ?_
    refine v_iconst (k := 0) rfl (fun v35 e36 => ?_)
    refine v_iconst (k := 2) rfl (fun v37 e38 => ?_)
    refine q_call (Nat.le_of_ble_eq_true rfl) (Nat.le_of_ble_eq_true rfl) (by show x_ce h + 0 ≤ 0; rw [S.2.2.1]; exact Nat.le_refl 0) (by show x_so h + 0 ≤ 0; rw [S.2.2.2]; exact Nat.le_refl 0) ?_
    refine xC.up (tv92 (h := x_setc h 0 0) (F := F) (x0 := x2) (x1 := v35) (x2 := v37) S.set  (fun o39 F40 hp => ?_)) (by omega)
    obtain ⟨hF43, ⟨v42, rfl, q41⟩⟩ := hp
    rw [hF43]
    show x_seq _ _ _ _ ([.inr (.inr (8, 1)), .inl x1, .inl x2], [.inl v42, .inr (.inr (8, 1))], mh h F)
    refine v_if_eq (fun d44 => ?_) (fun d44 => ?_)
    · skip
      refine xR.blk c94_24 ?_
      refine v_iconst (k := 1) rfl (fun v45 e46 => ?_)
      refine q_goto ?_
      exact (jn1 v45 (by omega) (by omega)).up (by omega)
    · skip
      refine q_iload rfl ?_
      refine q_iload rfl ?_
      refine v_icmp_ne (fun d47 => ?_) (fun d47 => ?_)
      · skip
        refine xR.blk c94_28 ?_
        refine q_aload rfl (by decide) ?_
        refine m_gfi S ?_
        have e48 : 0 ≤ (F 8 20).toInt ∧ (F 8 20).toInt ≤ 16 := M.fl (lo := 0) (hi := 16) (by decide)
        refine v_iconst (k := 16) rfl (fun v49 e50 => ?_)
        refine v_icmp_ne (fun d51 => ?_) (fun d51 => ?_)
        · skip
          refine xR.blk c94_41 ?_
          refine v_iconst (k := 0) rfl (fun v52 e53 => ?_)
          refine q_goto ?_
          exact (jn1 v52 (by omega) (by omega)).up (by omega)
        · skip
          refine v_iconst (k := 2) rfl (fun v54 e55 => ?_)
          refine q_goto ?_
          exact (jn1 v54 (by omega) (by omega)).up (by omega)
      · skip
        refine q_goto ?_
        refine xR.blk c94_24 ?_
        refine v_iconst (k := 1) rfl (fun v56 e57 => ?_)
        refine q_goto ?_
        exact (jn1 v56 (by omega) (by omega)).up (by omega)
theorem tv98 {h : xH} {Z : xO → xH → Prop} {F : xF} {x1 : Int32} {x2 : Int32} {x3 : Int32} (S : MS h) (M : MX 72 F) (hZ : ∀ (o : xO) (F' : xF), (MX 72 F') ∧ (∃ v : Int32, o = .inl (some (.inl v))) → Z o (mh h F')) : xC 3000 98 [.inr (.inr (8, 1)), .inl x1, .inl x2, .inl x3] (mh h F) Z := by
  refine ⟨rfl, S.2.2.1, S.2.2.2, ?_⟩
  show xR _ 98 0 ([.inr (.inr (8, 1)), .inl x1, .inl x2, .inl x3, .inr (.inr (0, 0)), .inr (.inr (0, 0)), .inr (.inr (0, 0))], [], mh h F) Z
  have jn1 : ∀ (sjn1_0 : Int32), (0 ≤ sjn1_0.toInt ∧ sjn1_0.toInt ≤ 1) → (sjn1_0.toInt = 0 → 0 ≤ x1.toInt ∧ x1.toInt ≤ 2 ∧ 0 ≤ x3.toInt ∧ x3.toInt ≤ 23 ∧ 0 ≤ x2.toInt ∧ x2.toInt ≤ 3) → xR (2900) 98 23 ([.inr (.inr (8, 1)), .inl x1, .inl x2, .inl x3, .inr (.inr (0, 0)), .inr (.inr (0, 0)), .inr (.inr (0, 0))], [.inl sjn1_0, .inr (.inr (8, 1))], mh h F) Z := by
    intro sjn1_0 kjn1_0 kjn1_1
    refine xR.blk c98_23 ?_
    refine q_callv (j := 1) rfl (by decide) ⟨Nat.le_refl 1, Nat.le_of_eq S.1.symm⟩ (Nat.le_of_ble_eq_true rfl) (Nat.le_of_ble_eq_true rfl) (by show x_ce h + 0 ≤ 0; rw [S.2.2.1]; exact Nat.le_refl 0) (by show x_so h + 0 ≤ 0; rw [S.2.2.2]; exact Nat.le_refl 0) ?_
    refine xC.up (tv91 (h := x_setc h 0 0) (F := F) (x1 := sjn1_0) S.set  (fun o4 F5 hp => ?_)) (by omega)
    obtain ⟨q8, ⟨v7, rfl, q6⟩⟩ := hp
    subst q8
    show x_seq _ _ _ _ ([.inr (.inr (8, 1)), .inl x1, .inl x2, .inl x3, .inr (.inr (0, 0)), .inr (.inr (0, 0)), .inr (.inr (0, 0))], [.inl v7], mh h (x_u2 F 8 0 sjn1_0))
    refine v_if_eq (fun d9 => ?_) (fun d9 => ?_)
    · skip
      refine xR.blk c98_31 ?_
      refine v_iconst (k := 0) rfl (fun v10 e11 => ?_)
      refine q_istore (Nat.le_of_ble_eq_true rfl) ?_
      show x_seq _ _ _ _ ([.inr (.inr (8, 1)), .inl x1, .inl x2, .inl x3, .inl v10, .inr (.inr (0, 0)), .inr (.inr (0, 0))], [], mh h (x_u2 F 8 0 sjn1_0))
      refine v_iconst (k := 4) rfl (fun v12 e13 => ?_)
      refine q_iload rfl ?_
      refine v_imul' e13 (by omega) (fun v14 e15 => ?_)
      refine q_istore (Nat.le_of_ble_eq_true rfl) ?_
      show x_seq _ _ _ _ ([.inr (.inr (8, 1)), .inl x1, .inl x2, .inl x3, .inl v10, .inl v14, .inr (.inr (0, 0))], [], mh h (x_u2 F 8 0 sjn1_0))
      refine q_goto ?_
      have lp16 : ∀ (m17 : Nat) (ylp16_4 : Int32) (ylp16_5 : Int32) (zlp16_6 : xV), (4 * x1.toInt ≤ ylp16_5.toInt ∧ ylp16_5.toInt ≤ 4 * x1.toInt + 4) → (4 * x1.toInt + 4 - ylp16_5.toInt).toNat < m17 → xR (120 + 200 * m17) 98 39 ([.inr (.inr (8, 1)), .inl x1, .inl x2, .inl x3, .inl ylp16_4, .inl ylp16_5, zlp16_6], [], mh h (x_u2 F 8 0 sjn1_0)) Z := by
        intro m17
        induction m17 with
        | zero => intro ylp16_4 ylp16_5 zlp16_6 klp16_0 kmlp16; exact absurd kmlp16 (by omega)
        | succ m17 ih18 =>
          intro ylp16_4 ylp16_5 zlp16_6 klp16_0 kmlp16
          rw [show 120 + 200 * (m17 + 1) = 120 + 200 * m17 + 200 by omega]
          refine xR.blk c98_39 ?_
          refine q_iload rfl ?_
          refine v_iconst (k := 4) rfl (fun v19 e20 => ?_)
          refine q_iload rfl ?_
          refine v_imul' e20 (by omega) (fun v21 e22 => ?_)
          refine v_iconst (k := 4) rfl (fun v23 e24 => ?_)
          refine v_iadd (by omega) (fun v25 e26 => ?_)
          refine v_icmp_ge (fun d27 => ?_) (fun d27 => ?_)
          · skip
            have jn28 : ∀ (yjn28_5 : Int32) (sjn28_0 : Int32), (0 ≤ sjn28_0.toInt ∧ sjn28_0.toInt ≤ 2) → (0 ≤ yjn28_5.toInt ∧ yjn28_5.toInt ≤ 11) → (sjn28_0.toInt = 0 → (F 26 yjn28_5.toNatClampNeg).toInt ≤ 5) → xR (120 + 200 * m17 + 100) 98 135 ([.inr (.inr (8, 1)), .inl x1, .inl x2, .inl x3, .inl ylp16_4, .inl yjn28_5, zlp16_6], [.inl sjn28_0, .inr (.inr (8, 1))], mh h (x_u2 F 8 0 sjn1_0)) Z := by
              intro yjn28_5 sjn28_0 kjn28_0 kjn28_1 kjn28_2
              refine xR.blk c98_135 ?_
              refine q_callv (j := 1) rfl (by decide) ⟨Nat.le_refl 1, Nat.le_of_eq S.1.symm⟩ (Nat.le_of_ble_eq_true rfl) (Nat.le_of_ble_eq_true rfl) (by show x_ce h + 0 ≤ 0; rw [S.2.2.1]; exact Nat.le_refl 0) (by show x_so h + 0 ≤ 0; rw [S.2.2.2]; exact Nat.le_refl 0) ?_
              refine xC.up (tv91 (h := x_setc h 0 0) (F := (x_u2 F 8 0 sjn1_0)) (x1 := sjn28_0) S.set  (fun o31 F32 hp => ?_)) (by omega)
              obtain ⟨q35, ⟨v34, rfl, q33⟩⟩ := hp
              subst q35
              show x_seq _ _ _ _ ([.inr (.inr (8, 1)), .inl x1, .inl x2, .inl x3, .inl ylp16_4, .inl yjn28_5, zlp16_6], [.inl v34], mh h (x_u2 (x_u2 F 8 0 sjn1_0) 8 0 sjn28_0))
              refine v_if_eq (fun d36 => ?_) (fun d36 => ?_)
              · skip
                refine xR.blk c98_143 ?_
                refine q_aload rfl (by decide) ?_
                refine m_gfr S (n := 72) (by decide) ?_
                refine v_iconst (k := 6) rfl (fun v37 e38 => ?_)
                refine q_iload rfl ?_
                refine v_imul' e38 (by omega) (fun v39 e40 => ?_)
                refine q_aload rfl (by decide) ?_
                refine m_gfr S (n := 12) (by decide) ?_
                refine q_iload rfl ?_
                refine m_ald (k := 7) (n := 12) S (by decide) (by omega) (by omega) ?_
                have e41 : 0 ≤ (F 26 yjn28_5.toNatClampNeg).toInt ∧ (F 26 yjn28_5.toNatClampNeg).toInt ≤ 6 := M.rg (lo := 0) (hi := 6) (by decide) _
                show x_seq _ _ _ _ ([.inr (.inr (8, 1)), .inl x1, .inl x2, .inl x3, .inl ylp16_4, .inl yjn28_5, zlp16_6], [.inl (F 26 yjn28_5.toNatClampNeg), .inl v39, .inr (.inr (27, 1))], mh h (x_u2 (x_u2 F 8 0 sjn1_0) 8 0 sjn28_0))
                refine v_iadd (by omega) (fun v42 e43 => ?_)
                refine q_iload rfl ?_
                refine m_ast (k := 8) (n := 72) S (by decide) (by omega) (by omega) ?_
                show x_seq _ _ _ _ ([.inr (.inr (8, 1)), .inl x1, .inl x2, .inl x3, .inl ylp16_4, .inl yjn28_5, zlp16_6], [], mh h (x_u2 (x_u2 (x_u2 F 8 0 sjn1_0) 8 0 sjn28_0) 27 v42.toNatClampNeg x3))
                refine q_aload rfl (by decide) ?_
                refine m_gfr S (n := 12) (by decide) ?_
                refine q_iload rfl ?_
                refine q_dup2 rfl rfl ?_
                refine m_ald (k := 7) (n := 12) S (by decide) (by omega) (by omega) ?_
                have e44 : 0 ≤ (F 26 yjn28_5.toNatClampNeg).toInt ∧ (F 26 yjn28_5.toNatClampNeg).toInt ≤ 6 := M.rg (lo := 0) (hi := 6) (by decide) _
                show x_seq _ _ _ _ ([.inr (.inr (8, 1)), .inl x1, .inl x2, .inl x3, .inl ylp16_4, .inl yjn28_5, zlp16_6], [.inl (F 26 yjn28_5.toNatClampNeg), .inl yjn28_5, .inr (.inr (26, 1))], mh h (x_u2 (x_u2 (x_u2 F 8 0 sjn1_0) 8 0 sjn28_0) 27 v42.toNatClampNeg x3))
                refine v_iconst (k := 1) rfl (fun v45 e46 => ?_)
                refine v_iadd (by omega) (fun v47 e48 => ?_)
                refine m_ast (k := 7) (n := 12) S (by decide) (by omega) (by omega) ?_
                show x_seq _ _ _ _ ([.inr (.inr (8, 1)), .inl x1, .inl x2, .inl x3, .inl ylp16_4, .inl yjn28_5, zlp16_6], [], mh h (x_u2 (x_u2 (x_u2 (x_u2 F 8 0 sjn1_0) 8 0 sjn28_0) 27 v42.toNatClampNeg x3) 26 yjn28_5.toNatClampNeg v47))
                refine q_aload rfl (by decide) ?_
                refine m_gfr S (n := 12) (by decide) ?_
                refine q_iload rfl ?_
                refine m_ald (k := 7) (n := 12) S (by decide) (by omega) (by omega) ?_
                rw [show (x_u2 (x_u2 (x_u2 (x_u2 F 8 0 sjn1_0) 8 0 sjn28_0) 27 v42.toNatClampNeg x3) 26 yjn28_5.toNatClampNeg v47) 26 yjn28_5.toNatClampNeg = v47 from (by rw [u2_eq])]
                show x_seq _ _ _ _ ([.inr (.inr (8, 1)), .inl x1, .inl x2, .inl x3, .inl ylp16_4, .inl yjn28_5, zlp16_6], [.inl v47], mh h (x_u2 (x_u2 (x_u2 (x_u2 F 8 0 sjn1_0) 8 0 sjn28_0) 27 v42.toNatClampNeg x3) 26 yjn28_5.toNatClampNeg v47))
                exact q_iret (hZ _ _ ⟨(MX.put (K := 26) (i := yjn28_5.toNatClampNeg) (v := v47) (MX.put (K := 27) (i := v42.toNatClampNeg) (v := x3) (MX.putf (k := 0) (v := sjn28_0) (MX.putf (k := 0) (v := sjn1_0) M (fun lo hi hm => by simp only [mfl, List.mem_cons, Prod.mk.injEq, List.not_mem_nil, or_false] at hm; omega)) (fun lo hi hm => by simp only [mfl, List.mem_cons, Prod.mk.injEq, List.not_mem_nil, or_false] at hm; omega)) (fun lo hi hm => by simp only [mrl, List.mem_cons, Prod.mk.injEq, List.not_mem_nil, or_false] at hm; omega) (by decide) (fun z => absurd z (by decide)) (Or.inl rfl)) (fun lo hi hm => by simp only [mrl, List.mem_cons, Prod.mk.injEq, List.not_mem_nil, or_false] at hm; omega) (by decide) (fun z => absurd z (by decide)) (Or.inl rfl)), ⟨_, rfl⟩⟩)
              · skip
                refine v_iconst (k := 0) rfl (fun v49 e50 => ?_)
                exact q_iret (hZ _ _ ⟨(MX.putf (k := 0) (v := sjn28_0) (MX.putf (k := 0) (v := sjn1_0) M (fun lo hi hm => by simp only [mfl, List.mem_cons, Prod.mk.injEq, List.not_mem_nil, or_false] at hm; omega)) (fun lo hi hm => by simp only [mfl, List.mem_cons, Prod.mk.injEq, List.not_mem_nil, or_false] at hm; omega)), ⟨_, rfl⟩⟩)
            refine xR.blk c98_105 ?_
            refine v_iconst (k := 4) rfl (fun v51 e52 => ?_)
            refine q_iload rfl ?_
            refine v_imul' e52 (by omega) (fun v53 e54 => ?_)
            refine q_iload rfl ?_
            refine v_iadd (by omega) (fun v55 e56 => ?_)
            refine q_istore (Nat.le_of_ble_eq_true rfl) ?_
            show x_seq _ _ _ _ ([.inr (.inr (8, 1)), .inl x1, .inl x2, .inl x3, .inl ylp16_4, .inl v55, zlp16_6], [], mh h (x_u2 F 8 0 sjn1_0))
            refine q_aload rfl (by decide) ?_
            refine q_iload rfl ?_
            refine v_if_ne (fun d57 => ?_) (fun d57 => ?_)
            · skip
              refine xR.blk c98_130 ?_
              refine v_iconst (k := 2) rfl (fun v58 e59 => ?_)
              refine q_goto ?_
              exact (jn28 v55 v58 (by omega) (by omega) (by omega)).up (by omega)
            · skip
              refine q_aload rfl (by decide) ?_
              refine m_gfr S (n := 12) (by decide) ?_
              refine q_iload rfl ?_
              refine m_ald (k := 7) (n := 12) S (by decide) (by omega) (by omega) ?_
              have e60 : 0 ≤ (F 26 v55.toNatClampNeg).toInt ∧ (F 26 v55.toNatClampNeg).toInt ≤ 6 := M.rg (lo := 0) (hi := 6) (by decide) _
              show x_seq _ _ _ _ ([.inr (.inr (8, 1)), .inl x1, .inl x2, .inl x3, .inl ylp16_4, .inl v55, zlp16_6], [.inl (F 26 v55.toNatClampNeg), .inr (.inr (8, 1))], mh h (x_u2 F 8 0 sjn1_0))
              refine v_iconst (k := 6) rfl (fun v61 e62 => ?_)
              refine v_icmp_ne (fun d63 => ?_) (fun d63 => ?_)
              · skip
                refine xR.blk c98_134 ?_
                refine v_iconst (k := 0) rfl (fun v64 e65 => ?_)
                refine q_goto ?_
                exact (jn28 v55 v64 (by omega) (by omega) (by omega)).up (by omega)
              · skip
                refine q_goto ?_
                refine xR.blk c98_130 ?_
                refine v_iconst (k := 2) rfl (fun v66 e67 => ?_)
                refine q_goto ?_
                exact (jn28 v55 v66 (by omega) (by omega) (by omega)).up (by omega)
          · skip
            refine v_iconst (k := 0) rfl (fun v68 e69 => ?_)
            refine q_istore (Nat.le_of_ble_eq_true rfl) ?_
            show x_seq _ _ _ _ ([.inr (.inr (8, 1)), .inl x1, .inl x2, .inl x3, .inl ylp16_4, .inl ylp16_5, .inl v68], [], mh h (x_u2 F 8 0 sjn1_0))
            refine q_goto ?_
            have lp70 : ∀ (m71 : Nat) (ylp70_4 : Int32) (ylp70_6 : Int32), (0 ≤ ylp70_6.toInt ∧ ylp70_6.toInt ≤ 6) → (6 - ylp70_6.toInt).toNat < m71 → xR (120 + 200 * m17 + 10 + 10 * m71) 98 52 ([.inr (.inr (8, 1)), .inl x1, .inl x2, .inl x3, .inl ylp70_4, .inl ylp16_5, .inl ylp70_6], [], mh h (x_u2 F 8 0 sjn1_0)) Z := by
              intro m71
              induction m71 with
              | zero => intro ylp70_4 ylp70_6 klp70_0 kmlp70; exact absurd kmlp70 (by omega)
              | succ m71 ih72 =>
                intro ylp70_4 ylp70_6 klp70_0 kmlp70
                rw [show 120 + 200 * m17 + 10 + 10 * (m71 + 1) = 120 + 200 * m17 + 10 + 10 * m71 + 10 by omega]
                refine xR.blk c98_52 ?_
                refine q_iload rfl ?_
                refine q_aload rfl (by decide) ?_
                refine m_gfr S (n := 12) (by decide) ?_
                refine q_iload rfl ?_
                refine m_ald (k := 7) (n := 12) S (by decide) (by omega) (by omega) ?_
                have e73 : 0 ≤ (F 26 ylp16_5.toNatClampNeg).toInt ∧ (F 26 ylp16_5.toNatClampNeg).toInt ≤ 6 := M.rg (lo := 0) (hi := 6) (by decide) _
                show x_seq _ _ _ _ ([.inr (.inr (8, 1)), .inl x1, .inl x2, .inl x3, .inl ylp70_4, .inl ylp16_5, .inl ylp70_6], [.inl (F 26 ylp16_5.toNatClampNeg), .inl ylp70_6], mh h (x_u2 F 8 0 sjn1_0))
                refine v_icmp_ge (fun d74 => ?_) (fun d74 => ?_)
                · skip
                  refine xR.blk c98_99 ?_
                  refine v_iinc (k := 1) rfl rfl (by omega) (by omega) (fun v75 e76 => ?_)
                  show x_seq _ _ _ _ ([.inr (.inr (8, 1)), .inl x1, .inl x2, .inl x3, .inl ylp70_4, .inl v75, .inl ylp70_6], [], mh h (x_u2 F 8 0 sjn1_0))
                  refine q_goto ?_
                  exact (ih18 ylp70_4 v75 (.inl ylp70_6) (by omega) (by omega)).up (by omega)
                · skip
                  refine q_iload rfl ?_
                  refine v_if_ne (fun d77 => ?_) (fun d77 => ?_)
                  · skip
                    refine xR.blk c98_86 ?_
                    refine v_iconst (k := 1) rfl (fun v78 e79 => ?_)
                    refine q_goto ?_
                    refine xR.blk c98_91 ?_
                    refine q_istore (Nat.le_of_ble_eq_true rfl) ?_
                    show x_seq _ _ _ _ ([.inr (.inr (8, 1)), .inl x1, .inl x2, .inl x3, .inl v78, .inl ylp16_5, .inl ylp70_6], [], mh h (x_u2 F 8 0 sjn1_0))
                    refine v_iinc (k := 1) rfl rfl (by omega) (by omega) (fun v80 e81 => ?_)
                    show x_seq _ _ _ _ ([.inr (.inr (8, 1)), .inl x1, .inl x2, .inl x3, .inl v78, .inl ylp16_5, .inl v80], [], mh h (x_u2 F 8 0 sjn1_0))
                    refine q_goto ?_
                    exact (ih72 v78 v80 (by omega) (by omega)).up (by omega)
                  · skip
                    refine q_aload rfl (by decide) ?_
                    refine m_gfr S (n := 72) (by decide) ?_
                    refine v_iconst (k := 6) rfl (fun v82 e83 => ?_)
                    refine q_iload rfl ?_
                    refine v_imul' e83 (by omega) (fun v84 e85 => ?_)
                    refine q_iload rfl ?_
                    refine v_iadd (by omega) (fun v86 e87 => ?_)
                    refine m_ald (k := 8) (n := 72) S (by decide) (by omega) (by omega) ?_
                    have e88 : 0 ≤ (F 27 v86.toNatClampNeg).toInt ∧ (F 27 v86.toNatClampNeg).toInt ≤ 23 := M.rg (lo := 0) (hi := 23) (by decide) _
                    show x_seq _ _ _ _ ([.inr (.inr (8, 1)), .inl x1, .inl x2, .inl x3, .inl ylp70_4, .inl ylp16_5, .inl ylp70_6], [.inl (F 27 v86.toNatClampNeg)], mh h (x_u2 F 8 0 sjn1_0))
                    refine q_iload rfl ?_
                    refine v_icmp_ne (fun d89 => ?_) (fun d89 => ?_)
                    · skip
                      refine xR.blk c98_90 ?_
                      refine v_iconst (k := 0) rfl (fun v90 e91 => ?_)
                      refine q_goto ?_
                      refine xR.blk c98_91 ?_
                      refine q_istore (Nat.le_of_ble_eq_true rfl) ?_
                      show x_seq _ _ _ _ ([.inr (.inr (8, 1)), .inl x1, .inl x2, .inl x3, .inl v90, .inl ylp16_5, .inl ylp70_6], [], mh h (x_u2 F 8 0 sjn1_0))
                      refine v_iinc (k := 1) rfl rfl (by omega) (by omega) (fun v92 e93 => ?_)
                      show x_seq _ _ _ _ ([.inr (.inr (8, 1)), .inl x1, .inl x2, .inl x3, .inl v90, .inl ylp16_5, .inl v92], [], mh h (x_u2 F 8 0 sjn1_0))
                      refine q_goto ?_
                      exact (ih72 v90 v92 (by omega) (by omega)).up (by omega)
                    · skip
                      refine q_goto ?_
                      refine xR.blk c98_86 ?_
                      refine v_iconst (k := 1) rfl (fun v94 e95 => ?_)
                      refine q_goto ?_
                      refine xR.blk c98_91 ?_
                      refine q_istore (Nat.le_of_ble_eq_true rfl) ?_
                      show x_seq _ _ _ _ ([.inr (.inr (8, 1)), .inl x1, .inl x2, .inl x3, .inl v94, .inl ylp16_5, .inl ylp70_6], [], mh h (x_u2 F 8 0 sjn1_0))
                      refine v_iinc (k := 1) rfl rfl (by omega) (by omega) (fun v96 e97 => ?_)
                      show x_seq _ _ _ _ ([.inr (.inr (8, 1)), .inl x1, .inl x2, .inl x3, .inl v94, .inl ylp16_5, .inl v96], [], mh h (x_u2 F 8 0 sjn1_0))
                      refine q_goto ?_
                      exact (ih72 v94 v96 (by omega) (by omega)).up (by omega)
            exact (lp70 7 ylp16_4 v68 (by omega) (by omega)).up (by omega)
      exact (lp16 5 v10 v14 (.inr (.inr (0, 0))) (by omega) (by omega)).up (by omega)
    · skip
      refine v_iconst (k := 0) rfl (fun v98 e99 => ?_)
      exact q_iret (hZ _ _ ⟨(MX.putf (k := 0) (v := sjn1_0) M (fun lo hi hm => by simp only [mfl, List.mem_cons, Prod.mk.injEq, List.not_mem_nil, or_false] at hm; omega)), ⟨_, rfl⟩⟩)
  refine xR.blk c98_0 ?_
  refine q_aload rfl (by decide) ?_
  refine q_iload rfl ?_
  refine q_iload rfl ?_
  refine q_call (Nat.le_of_ble_eq_true rfl) (Nat.le_of_ble_eq_true rfl) (by show x_ce h + 0 ≤ 0; rw [S.2.2.1]; exact Nat.le_refl 0) (by show x_so h + 0 ≤ 0; rw [S.2.2.2]; exact Nat.le_refl 0) ?_
  refine xC.up (tv93 (h := x_setc h 0 0) (F := F) (x0 := x1) (x1 := x3) S.set  (fun o100 F101 hp => ?_)) (by omega)
  obtain ⟨hF104, ⟨v103, rfl, q102⟩⟩ := hp
  rw [hF104]
  show x_seq _ _ _ _ ([.inr (.inr (8, 1)), .inl x1, .inl x2, .inl x3, .inr (.inr (0, 0)), .inr (.inr (0, 0)), .inr (.inr (0, 0))], [.inl v103, .inr (.inr (8, 1))], mh h F)
  refine v_if_eq (fun d105 => ?_) (fun d105 => ?_)
  · skip
    refine xR.blk c98_22 ?_
    refine v_iconst (k := 1) rfl (fun v106 e107 => ?_)
    refine q_goto ?_
    exact (jn1 v106 (by omega) (by omega)).up (by omega)
  · skip
    refine q_iload rfl ?_
    refine v_iconst (k := 0) rfl (fun v108 e109 => ?_)
    refine v_iconst (k := 3) rfl (fun v110 e111 => ?_)
    refine q_call (Nat.le_of_ble_eq_true rfl) (Nat.le_of_ble_eq_true rfl) (by show x_ce h + 0 ≤ 0; rw [S.2.2.1]; exact Nat.le_refl 0) (by show x_so h + 0 ≤ 0; rw [S.2.2.2]; exact Nat.le_refl 0) ?_
    refine xC.up (tv92 (h := x_setc h 0 0) (F := F) (x0 := x2) (x1 := v108) (x2 := v110) S.set  (fun o112 F113 hp => ?_)) (by omega)
    obtain ⟨hF116, ⟨v115, rfl, q114⟩⟩ := hp
    rw [hF116]
    show x_seq _ _ _ _ ([.inr (.inr (8, 1)), .inl x1, .inl x2, .inl x3, .inr (.inr (0, 0)), .inr (.inr (0, 0)), .inr (.inr (0, 0))], [.inl v115, .inr (.inr (8, 1))], mh h F)
    refine v_if_eq (fun d117 => ?_) (fun d117 => ?_)
    · skip
      refine xR.blk c98_22 ?_
      refine v_iconst (k := 1) rfl (fun v118 e119 => ?_)
      refine q_goto ?_
      exact (jn1 v118 (by omega) (by omega)).up (by omega)
    · skip
      refine v_iconst (k := 0) rfl (fun v120 e121 => ?_)
      refine q_goto ?_
      exact (jn1 v120 (by omega) (by omega)).up (by omega)
theorem tv110 {h : xH} {Z : xO → xH → Prop} {F : xF} {x1 : Int32} {x2 : Int32} (S : MS h) (M : MX 72 F) (hZ : ∀ (o : xO) (F' : xF), (MX 72 F') ∧ (o = .inl none) → Z o (mh h F')) : xC 2000 110 [.inr (.inr (8, 1)), .inl x1, .inl x2] (mh h F) Z := by
  refine ⟨rfl, S.2.2.1, S.2.2.2, ?_⟩
  show xR _ 110 0 ([.inr (.inr (8, 1)), .inl x1, .inl x2, .inr (.inr (0, 0)), .inr (.inr (0, 0))], [], mh h F) Z
  have jn1 : ∀ (sjn1_0 : Int32), (0 ≤ sjn1_0.toInt ∧ sjn1_0.toInt ≤ 2) → (sjn1_0.toInt = 0 → 0 ≤ x1.toInt ∧ x1.toInt ≤ 2 ∧ 0 ≤ x2.toInt ∧ x2.toInt ≤ 23) → xR (1900) 110 32 ([.inr (.inr (8, 1)), .inl x1, .inl x2, .inr (.inr (0, 0)), .inr (.inr (0, 0))], [.inl sjn1_0, .inr (.inr (8, 1))], mh h F) Z := by
    intro sjn1_0 kjn1_0 kjn1_1
    refine xR.blk c110_32 ?_
    refine q_callv (j := 1) rfl (by decide) ⟨Nat.le_refl 1, Nat.le_of_eq S.1.symm⟩ (Nat.le_of_ble_eq_true rfl) (Nat.le_of_ble_eq_true rfl) (by show x_ce h + 0 ≤ 0; rw [S.2.2.1]; exact Nat.le_refl 0) (by show x_so h + 0 ≤ 0; rw [S.2.2.2]; exact Nat.le_refl 0) ?_
    refine xC.up (tv91 (h := x_setc h 0 0) (F := F) (x1 := sjn1_0) S.set  (fun o4 F5 hp => ?_)) (by omega)
    obtain ⟨q8, ⟨v7, rfl, q6⟩⟩ := hp
    subst q8
    show x_seq _ _ _ _ ([.inr (.inr (8, 1)), .inl x1, .inl x2, .inr (.inr (0, 0)), .inr (.inr (0, 0))], [.inl v7], mh h (x_u2 F 8 0 sjn1_0))
    refine v_if_eq (fun d9 => ?_) (fun d9 => ?_)
    · skip
      refine xR.blk c110_39 ?_
      refine v_iconst (k := 24) rfl (fun v10 e11 => ?_)
      refine q_iload rfl ?_
      refine v_imul' e11 (by omega) (fun v12 e13 => ?_)
      refine q_iload rfl ?_
      refine v_iadd (by omega) (fun v14 e15 => ?_)
      refine q_istore (Nat.le_of_ble_eq_true rfl) ?_
      show x_seq _ _ _ _ ([.inr (.inr (8, 1)), .inl x1, .inl x2, .inl v14, .inr (.inr (0, 0))], [], mh h (x_u2 F 8 0 sjn1_0))
      refine q_aload rfl (by decide) ?_
      refine m_gfr S (n := 72) (by decide) ?_
      refine q_iload rfl ?_
      refine v_iconst (k := 1) rfl (fun v16 e17 => ?_)
      refine m_zst (k := 3) (n := 72) S (by decide) (by omega) (by omega) (i32_01 (by omega)) ?_
      show x_seq _ _ _ _ ([.inr (.inr (8, 1)), .inl x1, .inl x2, .inl v14, .inr (.inr (0, 0))], [], mh h (x_u2 (x_u2 F 8 0 sjn1_0) 22 v14.toNatClampNeg v16))
      refine q_aload rfl (by decide) ?_
      refine m_gfr S (n := 72) (by decide) ?_
      refine q_iload rfl ?_
      refine m_ald (k := 9) (n := 72) S (by decide) (by omega) (by omega) ?_
      have e18 : -1 ≤ (F 28 v14.toNatClampNeg).toInt ∧ (F 28 v14.toNatClampNeg).toInt ≤ 71 := M.rg (lo := -1) (hi := 71) (by decide) _
      show x_seq _ _ _ _ ([.inr (.inr (8, 1)), .inl x1, .inl x2, .inl v14, .inr (.inr (0, 0))], [.inl (F 28 v14.toNatClampNeg)], mh h (x_u2 (x_u2 F 8 0 sjn1_0) 22 v14.toNatClampNeg v16))
      refine q_istore (Nat.le_of_ble_eq_true rfl) ?_
      show x_seq _ _ _ _ ([.inr (.inr (8, 1)), .inl x1, .inl x2, .inl v14, .inl (F 28 v14.toNatClampNeg)], [], mh h (x_u2 (x_u2 F 8 0 sjn1_0) 22 v14.toNatClampNeg v16))
      refine q_iload rfl ?_
      refine v_if_lt (fun d19 => ?_) (fun d19 => ?_)
      · skip
        refine xR.blk c110_131 ?_
        refine q_aload rfl (by decide) ?_
        refine m_gfr S (n := 72) (by decide) ?_
        refine q_iload rfl ?_
        refine m_ald (k := 29) (n := 72) S (by decide) (by omega) (by omega) ?_
        have e20 : 0 ≤ (F 47 v14.toNatClampNeg).toInt ∧ (F 47 v14.toNatClampNeg).toInt ≤ 5 := M.rg (lo := 0) (hi := 5) (by decide) _
        show x_seq _ _ _ _ ([.inr (.inr (8, 1)), .inl x1, .inl x2, .inl v14, .inl (F 28 v14.toNatClampNeg)], [.inl (F 47 v14.toNatClampNeg)], mh h (x_u2 (x_u2 F 8 0 sjn1_0) 22 v14.toNatClampNeg v16))
        refine v_if_ne (fun d21 => ?_) (fun d21 => ?_)
        · skip
          refine xR.blk c110_184 ?_
          exact q_ret (hZ _ _ ⟨(MX.put (K := 22) (i := v14.toNatClampNeg) (v := v16) (MX.putf (k := 0) (v := sjn1_0) M (fun lo hi hm => by simp only [mfl, List.mem_cons, Prod.mk.injEq, List.not_mem_nil, or_false] at hm; omega)) (fun lo hi hm => by simp only [mrl, List.mem_cons, Prod.mk.injEq, List.not_mem_nil, or_false] at hm; omega) (by decide) (fun z => absurd z (by decide)) (Or.inl rfl)), rfl⟩)
        · skip
          refine q_aload rfl (by decide) ?_
          refine q_iload rfl ?_
          refine q_callv (j := 1) rfl (by decide) ⟨Nat.le_refl 1, Nat.le_of_eq S.1.symm⟩ (Nat.le_of_ble_eq_true rfl) (Nat.le_of_ble_eq_true rfl) (by show x_ce h + 0 ≤ 0; rw [S.2.2.1]; exact Nat.le_refl 0) (by show x_so h + 0 ≤ 0; rw [S.2.2.2]; exact Nat.le_refl 0) ?_
          refine xC.up (tv107 (h := x_setc h 0 0) (F := (x_u2 (x_u2 F 8 0 sjn1_0) 22 v14.toNatClampNeg v16)) (x1 := x1) S.set (by omega) (fun o22 F23 hp => ?_)) (by omega)
          obtain ⟨hF26, ⟨v25, rfl, q24⟩⟩ := hp
          rw [hF26]
          show x_seq _ _ _ _ ([.inr (.inr (8, 1)), .inl x1, .inl x2, .inl v14, .inl (F 28 v14.toNatClampNeg)], [.inl v25], mh h (x_u2 (x_u2 F 8 0 sjn1_0) 22 v14.toNatClampNeg v16))
          have hI := q24
          refine v_if_lt (fun d27 => ?_) (fun d27 => ?_)
          · skip
            refine xR.blk c110_164 ?_
            have cc30 := x_clamp (n := v14) (by omega)
            have sl29 : SL F v14.toNatClampNeg := M.2.2.2.1 _ (by omega) (by omega)
            unfold SL at sl29
            have M28 : MX v14.toNatClampNeg F := M.opn (by omega)
            refine q_aload rfl (by decide) ?_
            refine m_gfr S (n := 72) (by decide) ?_
            refine q_iload rfl ?_
            refine q_aload rfl (by decide) ?_
            refine m_gfi S ?_
            show x_seq _ _ _ _ ([.inr (.inr (8, 1)), .inl x1, .inl x2, .inl v14, .inl (F 28 v14.toNatClampNeg)], [.inl (F 8 2), .inl v14, .inr (.inr (24, 1))], mh h (x_u2 (x_u2 F 8 0 sjn1_0) 22 v14.toNatClampNeg v16))
            refine m_ast (k := 5) (n := 72) S (by decide) (by omega) (by omega) ?_
            show x_seq _ _ _ _ ([.inr (.inr (8, 1)), .inl x1, .inl x2, .inl v14, .inl (F 28 v14.toNatClampNeg)], [], mh h (x_u2 (x_u2 (x_u2 F 8 0 sjn1_0) 22 v14.toNatClampNeg v16) 24 v14.toNatClampNeg (F 8 2)))
            refine q_aload rfl (by decide) ?_
            refine q_dup rfl ?_
            refine m_gfi S ?_
            show x_seq _ _ _ _ ([.inr (.inr (8, 1)), .inl x1, .inl x2, .inl v14, .inl (F 28 v14.toNatClampNeg)], [.inl (F 8 2), .inr (.inr (8, 1))], mh h (x_u2 (x_u2 (x_u2 F 8 0 sjn1_0) 22 v14.toNatClampNeg v16) 24 v14.toNatClampNeg (F 8 2)))
            refine v_iconst (k := 1) rfl (fun v31 e32 => ?_)
            refine v_bin (fun v33 => ?_)
            refine m_pfi S ?_
            show x_seq _ _ _ _ ([.inr (.inr (8, 1)), .inl x1, .inl x2, .inl v14, .inl (F 28 v14.toNatClampNeg)], [], mh h (x_u2 (x_u2 (x_u2 (x_u2 F 8 0 sjn1_0) 22 v14.toNatClampNeg v16) 24 v14.toNatClampNeg (F 8 2)) 8 2 v33))
            refine q_goto ?_
            refine xR.blk c110_184 ?_
            exact q_ret (hZ _ _ ⟨(MX.close (MX.putf (k := 2) (v := v33) (MX.put (K := 24) (i := v14.toNatClampNeg) (v := (F 8 2)) (MX.put (K := 22) (i := v14.toNatClampNeg) (v := v16) (MX.putf (k := 0) (v := sjn1_0) M28 (fun lo hi hm => by simp only [mfl, List.mem_cons, Prod.mk.injEq, List.not_mem_nil, or_false] at hm; omega)) (fun lo hi hm => by simp only [mrl, List.mem_cons, Prod.mk.injEq, List.not_mem_nil, or_false] at hm; omega) (by decide) (fun z => absurd z (by decide)) (Or.inl rfl)) (fun lo hi hm => by simp only [mrl, List.mem_cons, Prod.mk.injEq, List.not_mem_nil, or_false] at hm; omega) (by decide) (fun z => absurd z (by decide)) (Or.inr rfl)) (fun lo hi hm => by simp only [mfl, List.mem_cons, Prod.mk.injEq, List.not_mem_nil, or_false] at hm; omega)) (by unfold SL; rw [show (x_u2 (x_u2 (x_u2 (x_u2 F 8 0 sjn1_0) 22 v14.toNatClampNeg v16) 24 v14.toNatClampNeg (F 8 2)) 8 2 v33) 47 v14.toNatClampNeg = (F 47 v14.toNatClampNeg) from (by rw [u2_ne (by decide), u2_ne (by decide), u2_ne (by decide), u2_ne (by decide)]), show (x_u2 (x_u2 (x_u2 (x_u2 F 8 0 sjn1_0) 22 v14.toNatClampNeg v16) 24 v14.toNatClampNeg (F 8 2)) 8 2 v33) 48 v14.toNatClampNeg = (F 48 v14.toNatClampNeg) from (by rw [u2_ne (by decide), u2_ne (by decide), u2_ne (by decide), u2_ne (by decide)]), show (x_u2 (x_u2 (x_u2 (x_u2 F 8 0 sjn1_0) 22 v14.toNatClampNeg v16) 24 v14.toNatClampNeg (F 8 2)) 8 2 v33) 63 v14.toNatClampNeg = (F 63 v14.toNatClampNeg) from (by rw [u2_ne (by decide), u2_ne (by decide), u2_ne (by decide), u2_ne (by decide)]), show (x_u2 (x_u2 (x_u2 (x_u2 F 8 0 sjn1_0) 22 v14.toNatClampNeg v16) 24 v14.toNatClampNeg (F 8 2)) 8 2 v33) 55 v14.toNatClampNeg = (F 55 v14.toNatClampNeg) from (by rw [u2_ne (by decide), u2_ne (by decide), u2_ne (by decide), u2_ne (by decide)]), show (x_u2 (x_u2 (x_u2 (x_u2 F 8 0 sjn1_0) 22 v14.toNatClampNeg v16) 24 v14.toNatClampNeg (F 8 2)) 8 2 v33) 57 v14.toNatClampNeg = (F 57 v14.toNatClampNeg) from (by rw [u2_ne (by decide), u2_ne (by decide), u2_ne (by decide), u2_ne (by decide)]), show (x_u2 (x_u2 (x_u2 (x_u2 F 8 0 sjn1_0) 22 v14.toNatClampNeg v16) 24 v14.toNatClampNeg (F 8 2)) 8 2 v33) 24 v14.toNatClampNeg = (F 8 2) from (by rw [u2_ne (by decide), u2_eq])]; exact ⟨fun z => by omega, fun z => by omega, fun z => by omega, fun z => by omega⟩)), rfl⟩)
          · skip
            refine q_aload rfl (by decide) ?_
            refine q_iload rfl ?_
            refine q_callv (j := 1) rfl (by decide) ⟨Nat.le_refl 1, Nat.le_of_eq S.1.symm⟩ (Nat.le_of_ble_eq_true rfl) (Nat.le_of_ble_eq_true rfl) (by show x_ce h + 0 ≤ 0; rw [S.2.2.1]; exact Nat.le_refl 0) (by show x_so h + 0 ≤ 0; rw [S.2.2.2]; exact Nat.le_refl 0) ?_
            refine xC.up (tv108 (h := x_setc h 0 0) (F := (x_u2 (x_u2 F 8 0 sjn1_0) 22 v14.toNatClampNeg v16)) (x1 := x1) S.set (by omega) (fun o35 F36 hp => ?_)) (by omega)
            obtain ⟨hF39, ⟨v38, rfl, q37⟩⟩ := hp
            rw [hF39]
            show x_seq _ _ _ _ ([.inr (.inr (8, 1)), .inl x1, .inl x2, .inl v14, .inl (F 28 v14.toNatClampNeg)], [.inl v38], mh h (x_u2 (x_u2 F 8 0 sjn1_0) 22 v14.toNatClampNeg v16))
            have hW1 := q37.1
            clear q37
            refine v_if_ne (fun d40 => ?_) (fun d40 => ?_)
            · skip
              refine xR.blk c110_164 ?_
              have cc43 := x_clamp (n := v14) (by omega)
              have sl42 : SL F v14.toNatClampNeg := M.2.2.2.1 _ (by omega) (by omega)
              unfold SL at sl42
              have M41 : MX v14.toNatClampNeg F := M.opn (by omega)
              refine q_aload rfl (by decide) ?_
              refine m_gfr S (n := 72) (by decide) ?_
              refine q_iload rfl ?_
              refine q_aload rfl (by decide) ?_
              refine m_gfi S ?_
              show x_seq _ _ _ _ ([.inr (.inr (8, 1)), .inl x1, .inl x2, .inl v14, .inl (F 28 v14.toNatClampNeg)], [.inl (F 8 2), .inl v14, .inr (.inr (24, 1))], mh h (x_u2 (x_u2 F 8 0 sjn1_0) 22 v14.toNatClampNeg v16))
              refine m_ast (k := 5) (n := 72) S (by decide) (by omega) (by omega) ?_
              show x_seq _ _ _ _ ([.inr (.inr (8, 1)), .inl x1, .inl x2, .inl v14, .inl (F 28 v14.toNatClampNeg)], [], mh h (x_u2 (x_u2 (x_u2 F 8 0 sjn1_0) 22 v14.toNatClampNeg v16) 24 v14.toNatClampNeg (F 8 2)))
              refine q_aload rfl (by decide) ?_
              refine q_dup rfl ?_
              refine m_gfi S ?_
              show x_seq _ _ _ _ ([.inr (.inr (8, 1)), .inl x1, .inl x2, .inl v14, .inl (F 28 v14.toNatClampNeg)], [.inl (F 8 2), .inr (.inr (8, 1))], mh h (x_u2 (x_u2 (x_u2 F 8 0 sjn1_0) 22 v14.toNatClampNeg v16) 24 v14.toNatClampNeg (F 8 2)))
              refine v_iconst (k := 1) rfl (fun v44 e45 => ?_)
              refine v_bin (fun v46 => ?_)
              refine m_pfi S ?_
              show x_seq _ _ _ _ ([.inr (.inr (8, 1)), .inl x1, .inl x2, .inl v14, .inl (F 28 v14.toNatClampNeg)], [], mh h (x_u2 (x_u2 (x_u2 (x_u2 F 8 0 sjn1_0) 22 v14.toNatClampNeg v16) 24 v14.toNatClampNeg (F 8 2)) 8 2 v46))
              refine q_goto ?_
              refine xR.blk c110_184 ?_
              exact q_ret (hZ _ _ ⟨(MX.close (MX.putf (k := 2) (v := v46) (MX.put (K := 24) (i := v14.toNatClampNeg) (v := (F 8 2)) (MX.put (K := 22) (i := v14.toNatClampNeg) (v := v16) (MX.putf (k := 0) (v := sjn1_0) M41 (fun lo hi hm => by simp only [mfl, List.mem_cons, Prod.mk.injEq, List.not_mem_nil, or_false] at hm; omega)) (fun lo hi hm => by simp only [mrl, List.mem_cons, Prod.mk.injEq, List.not_mem_nil, or_false] at hm; omega) (by decide) (fun z => absurd z (by decide)) (Or.inl rfl)) (fun lo hi hm => by simp only [mrl, List.mem_cons, Prod.mk.injEq, List.not_mem_nil, or_false] at hm; omega) (by decide) (fun z => absurd z (by decide)) (Or.inr rfl)) (fun lo hi hm => by simp only [mfl, List.mem_cons, Prod.mk.injEq, List.not_mem_nil, or_false] at hm; omega)) (by unfold SL; rw [show (x_u2 (x_u2 (x_u2 (x_u2 F 8 0 sjn1_0) 22 v14.toNatClampNeg v16) 24 v14.toNatClampNeg (F 8 2)) 8 2 v46) 47 v14.toNatClampNeg = (F 47 v14.toNatClampNeg) from (by rw [u2_ne (by decide), u2_ne (by decide), u2_ne (by decide), u2_ne (by decide)]), show (x_u2 (x_u2 (x_u2 (x_u2 F 8 0 sjn1_0) 22 v14.toNatClampNeg v16) 24 v14.toNatClampNeg (F 8 2)) 8 2 v46) 48 v14.toNatClampNeg = (F 48 v14.toNatClampNeg) from (by rw [u2_ne (by decide), u2_ne (by decide), u2_ne (by decide), u2_ne (by decide)]), show (x_u2 (x_u2 (x_u2 (x_u2 F 8 0 sjn1_0) 22 v14.toNatClampNeg v16) 24 v14.toNatClampNeg (F 8 2)) 8 2 v46) 63 v14.toNatClampNeg = (F 63 v14.toNatClampNeg) from (by rw [u2_ne (by decide), u2_ne (by decide), u2_ne (by decide), u2_ne (by decide)]), show (x_u2 (x_u2 (x_u2 (x_u2 F 8 0 sjn1_0) 22 v14.toNatClampNeg v16) 24 v14.toNatClampNeg (F 8 2)) 8 2 v46) 55 v14.toNatClampNeg = (F 55 v14.toNatClampNeg) from (by rw [u2_ne (by decide), u2_ne (by decide), u2_ne (by decide), u2_ne (by decide)]), show (x_u2 (x_u2 (x_u2 (x_u2 F 8 0 sjn1_0) 22 v14.toNatClampNeg v16) 24 v14.toNatClampNeg (F 8 2)) 8 2 v46) 57 v14.toNatClampNeg = (F 57 v14.toNatClampNeg) from (by rw [u2_ne (by decide), u2_ne (by decide), u2_ne (by decide), u2_ne (by decide)]), show (x_u2 (x_u2 (x_u2 (x_u2 F 8 0 sjn1_0) 22 v14.toNatClampNeg v16) 24 v14.toNatClampNeg (F 8 2)) 8 2 v46) 24 v14.toNatClampNeg = (F 8 2) from (by rw [u2_ne (by decide), u2_eq])]; exact ⟨fun z => by omega, fun z => by omega, fun z => by omega, fun z => by omega⟩)), rfl⟩)
            · skip
              refine q_aload rfl (by decide) ?_
              refine q_iload rfl ?_
              refine q_callv (j := 1) rfl (by decide) ⟨Nat.le_refl 1, Nat.le_of_eq S.1.symm⟩ (Nat.le_of_ble_eq_true rfl) (Nat.le_of_ble_eq_true rfl) (by show x_ce h + 0 ≤ 0; rw [S.2.2.1]; exact Nat.le_refl 0) (by show x_so h + 0 ≤ 0; rw [S.2.2.2]; exact Nat.le_refl 0) ?_
              refine xC.up (tv109 (h := x_setc h 0 0) (F := (x_u2 (x_u2 F 8 0 sjn1_0) 22 v14.toNatClampNeg v16)) (x1 := v14) S.set (by omega) (MX.put (K := 22) (i := v14.toNatClampNeg) (v := v16) (MX.putf (k := 0) (v := sjn1_0) M (fun lo hi hm => by simp only [mfl, List.mem_cons, Prod.mk.injEq, List.not_mem_nil, or_false] at hm; omega)) (fun lo hi hm => by simp only [mrl, List.mem_cons, Prod.mk.injEq, List.not_mem_nil, or_false] at hm; omega) (by decide) (fun z => absurd z (by decide)) (Or.inl rfl)) (by rw [show (x_u2 (x_u2 F 8 0 sjn1_0) 22 v14.toNatClampNeg v16) 47 v14.toNatClampNeg = (F 47 v14.toNatClampNeg) from (by rw [u2_ne (by decide), u2_ne (by decide)])]; omega) (⟨(3 * x1.toInt + v25.toInt).toNat, by omega, by omega, hI.2.1 (by omega) _ (by omega)⟩) (fun o48 F49 hp => ?_)) (by omega)
              obtain ⟨q52, rfl⟩ := hp
              show x_seq _ _ _ _ ([.inr (.inr (8, 1)), .inl x1, .inl x2, .inl v14, .inl (F 28 v14.toNatClampNeg)], [], mh h F49)
              refine q_goto ?_
              refine xR.blk c110_184 ?_
              exact q_ret (hZ _ _ ⟨q52.1, rfl⟩)
      · skip
        refine q_aload rfl (by decide) ?_
        refine m_gfr S (n := 72) (by decide) ?_
        refine q_iload rfl ?_
        refine m_ald (k := 29) (n := 72) S (by decide) (by omega) (by omega) ?_
        have e53 : 0 ≤ (F 47 (F 28 v14.toNatClampNeg).toNatClampNeg).toInt ∧ (F 47 (F 28 v14.toNatClampNeg).toNatClampNeg).toInt ≤ 5 := M.rg (lo := 0) (hi := 5) (by decide) _
        show x_seq _ _ _ _ ([.inr (.inr (8, 1)), .inl x1, .inl x2, .inl v14, .inl (F 28 v14.toNatClampNeg)], [.inl (F 47 (F 28 v14.toNatClampNeg).toNatClampNeg)], mh h (x_u2 (x_u2 F 8 0 sjn1_0) 22 v14.toNatClampNeg v16))
        refine v_iconst (k := 4) rfl (fun v54 e55 => ?_)
        refine v_icmp_ne (fun d56 => ?_) (fun d56 => ?_)
        · skip
          refine xR.blk c110_120 ?_
          refine q_aload rfl (by decide) ?_
          refine m_gfr S (n := 72) (by decide) ?_
          refine q_iload rfl ?_
          refine v_iconst (k := 0) rfl (fun v57 e58 => ?_)
          refine m_ast (k := 44) (n := 72) S (by decide) (by omega) (by omega) ?_
          show x_seq _ _ _ _ ([.inr (.inr (8, 1)), .inl x1, .inl x2, .inl v14, .inl (F 28 v14.toNatClampNeg)], [], mh h (x_u2 (x_u2 (x_u2 F 8 0 sjn1_0) 22 v14.toNatClampNeg v16) 62 (F 28 v14.toNatClampNeg).toNatClampNeg v57))
          refine q_goto ?_
          refine xR.blk c110_184 ?_
          exact q_ret (hZ _ _ ⟨(MX.put (K := 62) (i := (F 28 v14.toNatClampNeg).toNatClampNeg) (v := v57) (MX.put (K := 22) (i := v14.toNatClampNeg) (v := v16) (MX.putf (k := 0) (v := sjn1_0) M (fun lo hi hm => by simp only [mfl, List.mem_cons, Prod.mk.injEq, List.not_mem_nil, or_false] at hm; omega)) (fun lo hi hm => by simp only [mrl, List.mem_cons, Prod.mk.injEq, List.not_mem_nil, or_false] at hm; omega) (by decide) (fun z => absurd z (by decide)) (Or.inl rfl)) (fun lo hi hm => by simp only [mrl, List.mem_cons, Prod.mk.injEq, List.not_mem_nil, or_false] at hm; omega) (by decide) (fun z => absurd z (by decide)) (Or.inl rfl)), rfl⟩)
        · skip
          have cc61 := x_clamp (n := (F 28 v14.toNatClampNeg)) (by omega)
          have sl60 : SL F (F 28 v14.toNatClampNeg).toNatClampNeg := M.2.2.2.1 _ (by omega) (by omega)
          unfold SL at sl60
          have M59 : MX (F 28 v14.toNatClampNeg).toNatClampNeg F := M.opn (by omega)
          refine q_aload rfl (by decide) ?_
          refine m_gfr S (n := 72) (by decide) ?_
          refine q_iload rfl ?_
          refine v_iconst (k := 5) rfl (fun v62 e63 => ?_)
          refine m_ast (k := 29) (n := 72) S (by decide) (by omega) (by omega) ?_
          show x_seq _ _ _ _ ([.inr (.inr (8, 1)), .inl x1, .inl x2, .inl v14, .inl (F 28 v14.toNatClampNeg)], [], mh h (x_u2 (x_u2 (x_u2 F 8 0 sjn1_0) 22 v14.toNatClampNeg v16) 47 (F 28 v14.toNatClampNeg).toNatClampNeg v62))
          refine q_aload rfl (by decide) ?_
          refine m_gfr S (n := 72) (by decide) ?_
          refine q_iload rfl ?_
          refine v_iconst (k := 0) rfl (fun v64 e65 => ?_)
          refine m_ast (k := 43) (n := 72) S (by decide) (by omega) (by omega) ?_
          show x_seq _ _ _ _ ([.inr (.inr (8, 1)), .inl x1, .inl x2, .inl v14, .inl (F 28 v14.toNatClampNeg)], [], mh h (x_u2 (x_u2 (x_u2 (x_u2 F 8 0 sjn1_0) 22 v14.toNatClampNeg v16) 47 (F 28 v14.toNatClampNeg).toNatClampNeg v62) 61 (F 28 v14.toNatClampNeg).toNatClampNeg v64))
          refine q_aload rfl (by decide) ?_
          refine m_gfr S (n := 72) (by decide) ?_
          refine q_iload rfl ?_
          refine q_aload rfl (by decide) ?_
          refine m_gfr S (n := 72) (by decide) ?_
          refine q_iload rfl ?_
          refine m_ald (k := 6) (n := 72) S (by decide) (by omega) (by omega) ?_
          show x_seq _ _ _ _ ([.inr (.inr (8, 1)), .inl x1, .inl x2, .inl v14, .inl (F 28 v14.toNatClampNeg)], [.inl (F 25 (F 28 v14.toNatClampNeg).toNatClampNeg), .inl (F 28 v14.toNatClampNeg), .inr (.inr (25, 1))], mh h (x_u2 (x_u2 (x_u2 (x_u2 F 8 0 sjn1_0) 22 v14.toNatClampNeg v16) 47 (F 28 v14.toNatClampNeg).toNatClampNeg v62) 61 (F 28 v14.toNatClampNeg).toNatClampNeg v64))
          refine q_aload rfl (by decide) ?_
          refine m_gfr S (n := 36) (by decide) ?_
          refine q_aload rfl (by decide) ?_
          refine m_gfr S (n := 72) (by decide) ?_
          refine q_iload rfl ?_
          refine m_ald (k := 40) (n := 72) S (by decide) (by omega) (by omega) ?_
          have e66 : 0 ≤ (F 58 (F 28 v14.toNatClampNeg).toNatClampNeg).toInt ∧ (F 58 (F 28 v14.toNatClampNeg).toNatClampNeg).toInt ≤ 35 := M59.rg (lo := 0) (hi := 35) (by decide) _
          show x_seq _ _ _ _ ([.inr (.inr (8, 1)), .inl x1, .inl x2, .inl v14, .inl (F 28 v14.toNatClampNeg)], [.inl (F 58 (F 28 v14.toNatClampNeg).toNatClampNeg), .inr (.inr (31, 1)), .inl (F 25 (F 28 v14.toNatClampNeg).toNatClampNeg), .inl (F 28 v14.toNatClampNeg), .inr (.inr (25, 1))], mh h (x_u2 (x_u2 (x_u2 (x_u2 F 8 0 sjn1_0) 22 v14.toNatClampNeg v16) 47 (F 28 v14.toNatClampNeg).toNatClampNeg v62) 61 (F 28 v14.toNatClampNeg).toNatClampNeg v64))
          refine m_ald (k := 12) (n := 36) S (by decide) (by omega) (by omega) ?_
          show x_seq _ _ _ _ ([.inr (.inr (8, 1)), .inl x1, .inl x2, .inl v14, .inl (F 28 v14.toNatClampNeg)], [.inl (F 31 (F 58 (F 28 v14.toNatClampNeg).toNatClampNeg).toNatClampNeg), .inl (F 25 (F 28 v14.toNatClampNeg).toNatClampNeg), .inl (F 28 v14.toNatClampNeg), .inr (.inr (25, 1))], mh h (x_u2 (x_u2 (x_u2 (x_u2 F 8 0 sjn1_0) 22 v14.toNatClampNeg v16) 47 (F 28 v14.toNatClampNeg).toNatClampNeg v62) 61 (F 28 v14.toNatClampNeg).toNatClampNeg v64))
          refine v_bin (fun v67 => ?_)
          refine m_ast (k := 6) (n := 72) S (by decide) (by omega) (by omega) ?_
          show x_seq _ _ _ _ ([.inr (.inr (8, 1)), .inl x1, .inl x2, .inl v14, .inl (F 28 v14.toNatClampNeg)], [], mh h (x_u2 (x_u2 (x_u2 (x_u2 (x_u2 F 8 0 sjn1_0) 22 v14.toNatClampNeg v16) 47 (F 28 v14.toNatClampNeg).toNatClampNeg v62) 61 (F 28 v14.toNatClampNeg).toNatClampNeg v64) 25 (F 28 v14.toNatClampNeg).toNatClampNeg v67))
          refine q_goto ?_
          refine xR.blk c110_120 ?_
          refine q_aload rfl (by decide) ?_
          refine m_gfr S (n := 72) (by decide) ?_
          refine q_iload rfl ?_
          refine v_iconst (k := 0) rfl (fun v69 e70 => ?_)
          refine m_ast (k := 44) (n := 72) S (by decide) (by omega) (by omega) ?_
          show x_seq _ _ _ _ ([.inr (.inr (8, 1)), .inl x1, .inl x2, .inl v14, .inl (F 28 v14.toNatClampNeg)], [], mh h (x_u2 (x_u2 (x_u2 (x_u2 (x_u2 (x_u2 F 8 0 sjn1_0) 22 v14.toNatClampNeg v16) 47 (F 28 v14.toNatClampNeg).toNatClampNeg v62) 61 (F 28 v14.toNatClampNeg).toNatClampNeg v64) 25 (F 28 v14.toNatClampNeg).toNatClampNeg v67) 62 (F 28 v14.toNatClampNeg).toNatClampNeg v69))
          refine q_goto ?_
          refine xR.blk c110_184 ?_
          exact q_ret (hZ _ _ ⟨(MX.close (MX.put (K := 62) (i := (F 28 v14.toNatClampNeg).toNatClampNeg) (v := v69) (MX.put (K := 25) (i := (F 28 v14.toNatClampNeg).toNatClampNeg) (v := v67) (MX.put (K := 61) (i := (F 28 v14.toNatClampNeg).toNatClampNeg) (v := v64) (MX.put (K := 47) (i := (F 28 v14.toNatClampNeg).toNatClampNeg) (v := v62) (MX.put (K := 22) (i := v14.toNatClampNeg) (v := v16) (MX.putf (k := 0) (v := sjn1_0) M59 (fun lo hi hm => by simp only [mfl, List.mem_cons, Prod.mk.injEq, List.not_mem_nil, or_false] at hm; omega)) (fun lo hi hm => by simp only [mrl, List.mem_cons, Prod.mk.injEq, List.not_mem_nil, or_false] at hm; omega) (by decide) (fun z => absurd z (by decide)) (Or.inl rfl)) (fun lo hi hm => by simp only [mrl, List.mem_cons, Prod.mk.injEq, List.not_mem_nil, or_false] at hm; omega) (by decide) (fun z => absurd z (by decide)) (Or.inr rfl)) (fun lo hi hm => by simp only [mrl, List.mem_cons, Prod.mk.injEq, List.not_mem_nil, or_false] at hm; omega) (by decide) (fun z => absurd z (by decide)) (Or.inl rfl)) (fun lo hi hm => by simp only [mrl, List.mem_cons, Prod.mk.injEq, List.not_mem_nil, or_false] at hm; omega) (by decide) (fun z => absurd z (by decide)) (Or.inl rfl)) (fun lo hi hm => by simp only [mrl, List.mem_cons, Prod.mk.injEq, List.not_mem_nil, or_false] at hm; omega) (by decide) (fun z => absurd z (by decide)) (Or.inl rfl)) (by unfold SL; rw [show (x_u2 (x_u2 (x_u2 (x_u2 (x_u2 (x_u2 F 8 0 sjn1_0) 22 v14.toNatClampNeg v16) 47 (F 28 v14.toNatClampNeg).toNatClampNeg v62) 61 (F 28 v14.toNatClampNeg).toNatClampNeg v64) 25 (F 28 v14.toNatClampNeg).toNatClampNeg v67) 62 (F 28 v14.toNatClampNeg).toNatClampNeg v69) 47 (F 28 v14.toNatClampNeg).toNatClampNeg = v62 from (by rw [u2_ne (by decide), u2_ne (by decide), u2_ne (by decide), u2_eq]), show (x_u2 (x_u2 (x_u2 (x_u2 (x_u2 (x_u2 F 8 0 sjn1_0) 22 v14.toNatClampNeg v16) 47 (F 28 v14.toNatClampNeg).toNatClampNeg v62) 61 (F 28 v14.toNatClampNeg).toNatClampNeg v64) 25 (F 28 v14.toNatClampNeg).toNatClampNeg v67) 62 (F 28 v14.toNatClampNeg).toNatClampNeg v69) 48 (F 28 v14.toNatClampNeg).toNatClampNeg = (F 48 (F 28 v14.toNatClampNeg).toNatClampNeg) from (by rw [u2_ne (by decide), u2_ne (by decide), u2_ne (by decide), u2_ne (by decide), u2_ne (by decide), u2_ne (by decide)]), show (x_u2 (x_u2 (x_u2 (x_u2 (x_u2 (x_u2 F 8 0 sjn1_0) 22 v14.toNatClampNeg v16) 47 (F 28 v14.toNatClampNeg).toNatClampNeg v62) 61 (F 28 v14.toNatClampNeg).toNatClampNeg v64) 25 (F 28 v14.toNatClampNeg).toNatClampNeg v67) 62 (F 28 v14.toNatClampNeg).toNatClampNeg v69) 63 (F 28 v14.toNatClampNeg).toNatClampNeg = (F 63 (F 28 v14.toNatClampNeg).toNatClampNeg) from (by rw [u2_ne (by decide), u2_ne (by decide), u2_ne (by decide), u2_ne (by decide), u2_ne (by decide), u2_ne (by decide)]), show (x_u2 (x_u2 (x_u2 (x_u2 (x_u2 (x_u2 F 8 0 sjn1_0) 22 v14.toNatClampNeg v16) 47 (F 28 v14.toNatClampNeg).toNatClampNeg v62) 61 (F 28 v14.toNatClampNeg).toNatClampNeg v64) 25 (F 28 v14.toNatClampNeg).toNatClampNeg v67) 62 (F 28 v14.toNatClampNeg).toNatClampNeg v69) 55 (F 28 v14.toNatClampNeg).toNatClampNeg = (F 55 (F 28 v14.toNatClampNeg).toNatClampNeg) from (by rw [u2_ne (by decide), u2_ne (by decide), u2_ne (by decide), u2_ne (by decide), u2_ne (by decide), u2_ne (by decide)]), show (x_u2 (x_u2 (x_u2 (x_u2 (x_u2 (x_u2 F 8 0 sjn1_0) 22 v14.toNatClampNeg v16) 47 (F 28 v14.toNatClampNeg).toNatClampNeg v62) 61 (F 28 v14.toNatClampNeg).toNatClampNeg v64) 25 (F 28 v14.toNatClampNeg).toNatClampNeg v67) 62 (F 28 v14.toNatClampNeg).toNatClampNeg v69) 57 (F 28 v14.toNatClampNeg).toNatClampNeg = (F 57 (F 28 v14.toNatClampNeg).toNatClampNeg) from (by rw [u2_ne (by decide), u2_ne (by decide), u2_ne (by decide), u2_ne (by decide), u2_ne (by decide), u2_ne (by decide)]), show (x_u2 (x_u2 (x_u2 (x_u2 (x_u2 (x_u2 F 8 0 sjn1_0) 22 v14.toNatClampNeg v16) 47 (F 28 v14.toNatClampNeg).toNatClampNeg v62) 61 (F 28 v14.toNatClampNeg).toNatClampNeg v64) 25 (F 28 v14.toNatClampNeg).toNatClampNeg v67) 62 (F 28 v14.toNatClampNeg).toNatClampNeg v69) 24 (F 28 v14.toNatClampNeg).toNatClampNeg = (F 24 (F 28 v14.toNatClampNeg).toNatClampNeg) from (by rw [u2_ne (by decide), u2_ne (by decide), u2_ne (by decide), u2_ne (by decide), u2_ne (by decide), u2_ne (by decide)])]; exact ⟨fun z => by omega, fun z => by omega, fun z => by omega, fun z => by omega⟩)), rfl⟩)
    · skip
      exact q_ret (hZ _ _ ⟨(MX.putf (k := 0) (v := sjn1_0) M (fun lo hi hm => by simp only [mfl, List.mem_cons, Prod.mk.injEq, List.not_mem_nil, or_false] at hm; omega)), rfl⟩)
  refine xR.blk c110_0 ?_
  refine q_aload rfl (by decide) ?_
  refine q_iload rfl ?_
  refine q_iload rfl ?_
  refine q_call (Nat.le_of_ble_eq_true rfl) (Nat.le_of_ble_eq_true rfl) (by show x_ce h + 0 ≤ 0; rw [S.2.2.1]; exact Nat.le_refl 0) (by show x_so h + 0 ≤ 0; rw [S.2.2.2]; exact Nat.le_refl 0) ?_
  refine xC.up (tv93 (h := x_setc h 0 0) (F := F) (x0 := x1) (x1 := x2) S.set  (fun o71 F72 hp => ?_)) (by omega)
  obtain ⟨hF75, ⟨v74, rfl, q73⟩⟩ := hp
  rw [hF75]
  show x_seq _ _ _ _ ([.inr (.inr (8, 1)), .inl x1, .inl x2, .inr (.inr (0, 0)), .inr (.inr (0, 0))], [.inl v74, .inr (.inr (8, 1))], mh h F)
  refine v_if_ne (fun d76 => ?_) (fun d76 => ?_)
  · skip
    refine xR.blk c110_13 ?_
    refine q_aload rfl (by decide) ?_
    refine m_gfr S (n := 72) (by decide) ?_
    refine v_iconst (k := 24) rfl (fun v77 e78 => ?_)
    refine q_iload rfl ?_
    refine v_imul' e78 (by omega) (fun v79 e80 => ?_)
    refine q_iload rfl ?_
    refine v_iadd (by omega) (fun v81 e82 => ?_)
    refine m_ald (k := 3) (n := 72) S (by decide) (by omega) (by omega) ?_
    refine v_if_eq (fun d83 => ?_) (fun d83 => ?_)
    · skip
      refine xR.blk c110_31 ?_
      refine v_iconst (k := 0) rfl (fun v84 e85 => ?_)
      refine q_goto ?_
      exact (jn1 v84 (by omega) (by omega)).up (by omega)
    · skip
      refine v_iconst (k := 2) rfl (fun v86 e87 => ?_)
      refine q_goto ?_
      exact (jn1 v86 (by omega) (by omega)).up (by omega)
  · skip
    refine v_iconst (k := 1) rfl (fun v88 e89 => ?_)
    refine q_goto ?_
    exact (jn1 v88 (by omega) (by omega)).up (by omega)
theorem tv111 {h : xH} {Z : xO → xH → Prop} {F : xF} {x1 : Int32} {x2 : Int32} (S : MS h) (M : MX 72 F) (hZ : ∀ (o : xO) (F' : xF), (MX 72 F') ∧ (o = .inl none) → Z o (mh h F')) : xC 13000 111 [.inr (.inr (8, 1)), .inl x1, .inl x2] (mh h F) Z := by
  refine ⟨rfl, S.2.2.1, S.2.2.2, ?_⟩
  show xR _ 111 0 ([.inr (.inr (8, 1)), .inl x1, .inl x2, .inr (.inr (0, 0))], [], mh h F) Z
  have jn1 : ∀ (sjn1_0 : Int32), (0 ≤ sjn1_0.toInt ∧ sjn1_0.toInt ≤ 2) → (sjn1_0.toInt = 0 → 0 ≤ x1.toInt ∧ x1.toInt ≤ 2 ∧ 0 ≤ x2.toInt ∧ x2.toInt ≤ 23) → xR (12000) 111 32 ([.inr (.inr (8, 1)), .inl x1, .inl x2, .inr (.inr (0, 0))], [.inl sjn1_0, .inr (.inr (8, 1))], mh h F) Z := by
    intro sjn1_0 kjn1_0 kjn1_1
    refine xR.blk c111_32 ?_
    refine q_callv (j := 1) rfl (by decide) ⟨Nat.le_refl 1, Nat.le_of_eq S.1.symm⟩ (Nat.le_of_ble_eq_true rfl) (Nat.le_of_ble_eq_true rfl) (by show x_ce h + 0 ≤ 0; rw [S.2.2.1]; exact Nat.le_refl 0) (by show x_so h + 0 ≤ 0; rw [S.2.2.2]; exact Nat.le_refl 0) ?_
    refine xC.up (tv91 (h := x_setc h 0 0) (F := F) (x1 := sjn1_0) S.set  (fun o4 F5 hp => ?_)) (by omega)
    obtain ⟨q8, ⟨v7, rfl, q6⟩⟩ := hp
    subst q8
    show x_seq _ _ _ _ ([.inr (.inr (8, 1)), .inl x1, .inl x2, .inr (.inr (0, 0))], [.inl v7], mh h (x_u2 F 8 0 sjn1_0))
    refine v_if_eq (fun d9 => ?_) (fun d9 => ?_)
    · skip
      refine xR.blk c111_39 ?_
      refine v_iconst (k := 24) rfl (fun v10 e11 => ?_)
      refine q_iload rfl ?_
      refine v_imul' e11 (by omega) (fun v12 e13 => ?_)
      refine q_iload rfl ?_
      refine v_iadd (by omega) (fun v14 e15 => ?_)
      refine q_istore (Nat.le_of_ble_eq_true rfl) ?_
      show x_seq _ _ _ _ ([.inr (.inr (8, 1)), .inl x1, .inl x2, .inl v14], [], mh h (x_u2 F 8 0 sjn1_0))
      refine q_aload rfl (by decide) ?_
      refine m_gfr S (n := 72) (by decide) ?_
      refine q_iload rfl ?_
      refine v_iconst (k := 0) rfl (fun v16 e17 => ?_)
      refine m_zst (k := 3) (n := 72) S (by decide) (by omega) (by omega) (i32_01 (by omega)) ?_
      show x_seq _ _ _ _ ([.inr (.inr (8, 1)), .inl x1, .inl x2, .inl v14], [], mh h (x_u2 (x_u2 F 8 0 sjn1_0) 22 v14.toNatClampNeg v16))
      refine q_aload rfl (by decide) ?_
      refine m_gfr S (n := 72) (by decide) ?_
      refine q_iload rfl ?_
      refine v_iconst (k := 0) rfl (fun v18 e19 => ?_)
      refine m_ast (k := 4) (n := 72) S (by decide) (by omega) (by omega) ?_
      show x_seq _ _ _ _ ([.inr (.inr (8, 1)), .inl x1, .inl x2, .inl v14], [], mh h (x_u2 (x_u2 (x_u2 F 8 0 sjn1_0) 22 v14.toNatClampNeg v16) 23 v14.toNatClampNeg v18))
      refine q_aload rfl (by decide) ?_
      refine m_gfr S (n := 72) (by decide) ?_
      refine q_iload rfl ?_
      refine v_iconst (k := -1) rfl (fun v20 e21 => ?_)
      refine m_ast (k := 5) (n := 72) S (by decide) (by omega) (by omega) ?_
      show x_seq _ _ _ _ ([.inr (.inr (8, 1)), .inl x1, .inl x2, .inl v14], [], mh h (x_u2 (x_u2 (x_u2 (x_u2 F 8 0 sjn1_0) 22 v14.toNatClampNeg v16) 23 v14.toNatClampNeg v18) 24 v14.toNatClampNeg v20))
      refine q_aload rfl (by decide) ?_
      refine m_gfr S (n := 72) (by decide) ?_
      refine q_iload rfl ?_
      refine m_ald (k := 29) (n := 72) S (by decide) (by omega) (by omega) ?_
      have e22 : 0 ≤ (F 47 v14.toNatClampNeg).toInt ∧ (F 47 v14.toNatClampNeg).toInt ≤ 5 := M.rg (lo := 0) (hi := 5) (by decide) _
      show x_seq _ _ _ _ ([.inr (.inr (8, 1)), .inl x1, .inl x2, .inl v14], [.inl (F 47 v14.toNatClampNeg)], mh h (x_u2 (x_u2 (x_u2 (x_u2 F 8 0 sjn1_0) 22 v14.toNatClampNeg v16) 23 v14.toNatClampNeg v18) 24 v14.toNatClampNeg v20))
      refine v_if_eq (fun d23 => ?_) (fun d23 => ?_)
      · skip
        refine xR.blk c111_104 ?_
        refine q_aload rfl (by decide) ?_
        refine m_gfr S (n := 72) (by decide) ?_
        refine q_iload rfl ?_
        refine m_ald (k := 9) (n := 72) S (by decide) (by omega) (by omega) ?_
        have e24 : -1 ≤ (F 28 v14.toNatClampNeg).toInt ∧ (F 28 v14.toNatClampNeg).toInt ≤ 71 := M.rg (lo := -1) (hi := 71) (by decide) _
        show x_seq _ _ _ _ ([.inr (.inr (8, 1)), .inl x1, .inl x2, .inl v14], [.inl (F 28 v14.toNatClampNeg)], mh h (x_u2 (x_u2 (x_u2 (x_u2 F 8 0 sjn1_0) 22 v14.toNatClampNeg v16) 23 v14.toNatClampNeg v18) 24 v14.toNatClampNeg v20))
        refine v_if_lt (fun d25 => ?_) (fun d25 => ?_)
        · skip
          refine xR.blk c111_125 ?_
          exact q_ret (hZ _ _ ⟨(MX.putW (i := v14.toNatClampNeg) (v := v20) (MX.put (K := 23) (i := v14.toNatClampNeg) (v := v18) (MX.put (K := 22) (i := v14.toNatClampNeg) (v := v16) (MX.putf (k := 0) (v := sjn1_0) M (fun lo hi hm => by simp only [mfl, List.mem_cons, Prod.mk.injEq, List.not_mem_nil, or_false] at hm; omega)) (fun lo hi hm => by simp only [mrl, List.mem_cons, Prod.mk.injEq, List.not_mem_nil, or_false] at hm; omega) (by decide) (fun z => absurd z (by decide)) (Or.inl rfl)) (fun lo hi hm => by simp only [mrl, List.mem_cons, Prod.mk.injEq, List.not_mem_nil, or_false] at hm; omega) (by decide) (fun z => absurd z (by decide)) (Or.inl rfl)) (by omega)), rfl⟩)
        · skip
          refine q_aload rfl (by decide) ?_
          refine m_gfr S (n := 72) (by decide) ?_
          refine q_aload rfl (by decide) ?_
          refine m_gfr S (n := 72) (by decide) ?_
          refine q_iload rfl ?_
          refine m_ald (k := 9) (n := 72) S (by decide) (by omega) (by omega) ?_
          have e26 : -1 ≤ (F 28 v14.toNatClampNeg).toInt ∧ (F 28 v14.toNatClampNeg).toInt ≤ 71 := M.rg (lo := -1) (hi := 71) (by decide) _
          show x_seq _ _ _ _ ([.inr (.inr (8, 1)), .inl x1, .inl x2, .inl v14], [.inl (F 28 v14.toNatClampNeg), .inr (.inr (62, 1))], mh h (x_u2 (x_u2 (x_u2 (x_u2 F 8 0 sjn1_0) 22 v14.toNatClampNeg v16) 23 v14.toNatClampNeg v18) 24 v14.toNatClampNeg v20))
          refine v_iconst (k := 0) rfl (fun v27 e28 => ?_)
          refine m_ast (k := 44) (n := 72) S (by decide) (by omega) (by omega) ?_
          show x_seq _ _ _ _ ([.inr (.inr (8, 1)), .inl x1, .inl x2, .inl v14], [], mh h (x_u2 (x_u2 (x_u2 (x_u2 (x_u2 F 8 0 sjn1_0) 22 v14.toNatClampNeg v16) 23 v14.toNatClampNeg v18) 24 v14.toNatClampNeg v20) 62 (F 28 v14.toNatClampNeg).toNatClampNeg v27))
          refine q_goto ?_
          refine xR.blk c111_125 ?_
          exact q_ret (hZ _ _ ⟨(MX.put (K := 62) (i := (F 28 v14.toNatClampNeg).toNatClampNeg) (v := v27) (MX.putW (i := v14.toNatClampNeg) (v := v20) (MX.put (K := 23) (i := v14.toNatClampNeg) (v := v18) (MX.put (K := 22) (i := v14.toNatClampNeg) (v := v16) (MX.putf (k := 0) (v := sjn1_0) M (fun lo hi hm => by simp only [mfl, List.mem_cons, Prod.mk.injEq, List.not_mem_nil, or_false] at hm; omega)) (fun lo hi hm => by simp only [mrl, List.mem_cons, Prod.mk.injEq, List.not_mem_nil, or_false] at hm; omega) (by decide) (fun z => absurd z (by decide)) (Or.inl rfl)) (fun lo hi hm => by simp only [mrl, List.mem_cons, Prod.mk.injEq, List.not_mem_nil, or_false] at hm; omega) (by decide) (fun z => absurd z (by decide)) (Or.inl rfl)) (by omega)) (fun lo hi hm => by simp only [mrl, List.mem_cons, Prod.mk.injEq, List.not_mem_nil, or_false] at hm; omega) (by decide) (fun z => absurd z (by decide)) (Or.inl rfl)), rfl⟩)
      · skip
        refine q_aload rfl (by decide) ?_
        refine m_gfr S (n := 72) (by decide) ?_
        refine q_iload rfl ?_
        refine m_ald (k := 29) (n := 72) S (by decide) (by omega) (by omega) ?_
        have e29 : 0 ≤ (F 47 v14.toNatClampNeg).toInt ∧ (F 47 v14.toNatClampNeg).toInt ≤ 5 := M.rg (lo := 0) (hi := 5) (by decide) _
        show x_seq _ _ _ _ ([.inr (.inr (8, 1)), .inl x1, .inl x2, .inl v14], [.inl (F 47 v14.toNatClampNeg)], mh h (x_u2 (x_u2 (x_u2 (x_u2 F 8 0 sjn1_0) 22 v14.toNatClampNeg v16) 23 v14.toNatClampNeg v18) 24 v14.toNatClampNeg v20))
        refine v_iconst (k := 5) rfl (fun v30 e31 => ?_)
        refine v_icmp_ne (fun d32 => ?_) (fun d32 => ?_)
        · skip
          refine xR.blk c111_95 ?_
          refine q_aload rfl (by decide) ?_
          refine q_iload rfl ?_
          refine v_iconst (k := 3) rfl (fun v33 e34 => ?_)
          refine q_callv (j := 1) rfl (by decide) ⟨Nat.le_refl 1, Nat.le_of_eq S.1.symm⟩ (Nat.le_of_ble_eq_true rfl) (Nat.le_of_ble_eq_true rfl) (by show x_ce h + 0 ≤ 0; rw [S.2.2.1]; exact Nat.le_refl 0) (by show x_so h + 0 ≤ 0; rw [S.2.2.2]; exact Nat.le_refl 0) ?_
          refine xC.up (tv106 (h := x_setc h 0 0) (F := (x_u2 (x_u2 (x_u2 (x_u2 F 8 0 sjn1_0) 22 v14.toNatClampNeg v16) 23 v14.toNatClampNeg v18) 24 v14.toNatClampNeg v20)) (x1 := v14) (x2 := v33) S.set (by omega) (MX.putW (i := v14.toNatClampNeg) (v := v20) (MX.put (K := 23) (i := v14.toNatClampNeg) (v := v18) (MX.put (K := 22) (i := v14.toNatClampNeg) (v := v16) (MX.putf (k := 0) (v := sjn1_0) M (fun lo hi hm => by simp only [mfl, List.mem_cons, Prod.mk.injEq, List.not_mem_nil, or_false] at hm; omega)) (fun lo hi hm => by simp only [mrl, List.mem_cons, Prod.mk.injEq, List.not_mem_nil, or_false] at hm; omega) (by decide) (fun z => absurd z (by decide)) (Or.inl rfl)) (fun lo hi hm => by simp only [mrl, List.mem_cons, Prod.mk.injEq, List.not_mem_nil, or_false] at hm; omega) (by decide) (fun z => absurd z (by decide)) (Or.inl rfl)) (by omega)) (fun o35 F36 hp => ?_)) (by omega)
          obtain ⟨q39, rfl⟩ := hp
          show x_seq _ _ _ _ ([.inr (.inr (8, 1)), .inl x1, .inl x2, .inl v14], [], mh h F36)
          refine q_goto ?_
          refine xR.blk c111_125 ?_
          exact q_ret (hZ _ _ ⟨q39.1, rfl⟩)
        · skip
          refine q_aload rfl (by decide) ?_
          refine m_gfr S (n := 72) (by decide) ?_
          refine q_iload rfl ?_
          refine m_ald (k := 42) (n := 72) S (by decide) (by omega) (by omega) ?_
          show x_seq _ _ _ _ ([.inr (.inr (8, 1)), .inl x1, .inl x2, .inl v14], [.inl (F 60 v14.toNatClampNeg)], mh h (x_u2 (x_u2 (x_u2 (x_u2 F 8 0 sjn1_0) 22 v14.toNatClampNeg v16) 23 v14.toNatClampNeg v18) 24 v14.toNatClampNeg v20))
          refine v_if_ne (fun d40 => ?_) (fun d40 => ?_)
          · skip
            refine xR.blk c111_125 ?_
            exact q_ret (hZ _ _ ⟨(MX.putW (i := v14.toNatClampNeg) (v := v20) (MX.put (K := 23) (i := v14.toNatClampNeg) (v := v18) (MX.put (K := 22) (i := v14.toNatClampNeg) (v := v16) (MX.putf (k := 0) (v := sjn1_0) M (fun lo hi hm => by simp only [mfl, List.mem_cons, Prod.mk.injEq, List.not_mem_nil, or_false] at hm; omega)) (fun lo hi hm => by simp only [mrl, List.mem_cons, Prod.mk.injEq, List.not_mem_nil, or_false] at hm; omega) (by decide) (fun z => absurd z (by decide)) (Or.inl rfl)) (fun lo hi hm => by simp only [mrl, List.mem_cons, Prod.mk.injEq, List.not_mem_nil, or_false] at hm; omega) (by decide) (fun z => absurd z (by decide)) (Or.inl rfl)) (by omega)), rfl⟩)
          · skip
            refine q_goto ?_
            refine xR.blk c111_95 ?_
            refine q_aload rfl (by decide) ?_
            refine q_iload rfl ?_
            refine v_iconst (k := 3) rfl (fun v41 e42 => ?_)
            refine q_callv (j := 1) rfl (by decide) ⟨Nat.le_refl 1, Nat.le_of_eq S.1.symm⟩ (Nat.le_of_ble_eq_true rfl) (Nat.le_of_ble_eq_true rfl) (by show x_ce h + 0 ≤ 0; rw [S.2.2.1]; exact Nat.le_refl 0) (by show x_so h + 0 ≤ 0; rw [S.2.2.2]; exact Nat.le_refl 0) ?_
            refine xC.up (tv106 (h := x_setc h 0 0) (F := (x_u2 (x_u2 (x_u2 (x_u2 F 8 0 sjn1_0) 22 v14.toNatClampNeg v16) 23 v14.toNatClampNeg v18) 24 v14.toNatClampNeg v20)) (x1 := v14) (x2 := v41) S.set (by omega) (MX.putW (i := v14.toNatClampNeg) (v := v20) (MX.put (K := 23) (i := v14.toNatClampNeg) (v := v18) (MX.put (K := 22) (i := v14.toNatClampNeg) (v := v16) (MX.putf (k := 0) (v := sjn1_0) M (fun lo hi hm => by simp only [mfl, List.mem_cons, Prod.mk.injEq, List.not_mem_nil, or_false] at hm; omega)) (fun lo hi hm => by simp only [mrl, List.mem_cons, Prod.mk.injEq, List.not_mem_nil, or_false] at hm; omega) (by decide) (fun z => absurd z (by decide)) (Or.inl rfl)) (fun lo hi hm => by simp only [mrl, List.mem_cons, Prod.mk.injEq, List.not_mem_nil, or_false] at hm; omega) (by decide) (fun z => absurd z (by decide)) (Or.inl rfl)) (by omega)) (fun o43 F44 hp => ?_)) (by omega)
            obtain ⟨q47, rfl⟩ := hp
            show x_seq _ _ _ _ ([.inr (.inr (8, 1)), .inl x1, .inl x2, .inl v14], [], mh h F44)
            refine q_goto ?_
            refine xR.blk c111_125 ?_
            exact q_ret (hZ _ _ ⟨q47.1, rfl⟩)
    · skip
      exact q_ret (hZ _ _ ⟨(MX.putf (k := 0) (v := sjn1_0) M (fun lo hi hm => by simp only [mfl, List.mem_cons, Prod.mk.injEq, List.not_mem_nil, or_false] at hm; omega)), rfl⟩)
  refine xR.blk c111_0 ?_
  refine q_aload rfl (by decide) ?_
  refine q_iload rfl ?_
  refine q_iload rfl ?_
  refine q_call (Nat.le_of_ble_eq_true rfl) (Nat.le_of_ble_eq_true rfl) (by show x_ce h + 0 ≤ 0; rw [S.2.2.1]; exact Nat.le_refl 0) (by show x_so h + 0 ≤ 0; rw [S.2.2.2]; exact Nat.le_refl 0) ?_
  refine xC.up (tv93 (h := x_setc h 0 0) (F := F) (x0 := x1) (x1 := x2) S.set  (fun o48 F49 hp => ?_)) (by omega)
  obtain ⟨hF52, ⟨v51, rfl, q50⟩⟩ := hp
  rw [hF52]
  show x_seq _ _ _ _ ([.inr (.inr (8, 1)), .inl x1, .inl x2, .inr (.inr (0, 0))], [.inl v51, .inr (.inr (8, 1))], mh h F)
  refine v_if_ne (fun d53 => ?_) (fun d53 => ?_)
  · skip
    refine xR.blk c111_13 ?_
    refine q_aload rfl (by decide) ?_
    refine m_gfr S (n := 72) (by decide) ?_
    refine v_iconst (k := 24) rfl (fun v54 e55 => ?_)
    refine q_iload rfl ?_
    refine v_imul' e55 (by omega) (fun v56 e57 => ?_)
    refine q_iload rfl ?_
    refine v_iadd (by omega) (fun v58 e59 => ?_)
    refine m_ald (k := 3) (n := 72) S (by decide) (by omega) (by omega) ?_
    refine v_if_ne (fun d60 => ?_) (fun d60 => ?_)
    · skip
      refine xR.blk c111_31 ?_
      refine v_iconst (k := 0) rfl (fun v61 e62 => ?_)
      refine q_goto ?_
      exact (jn1 v61 (by omega) (by omega)).up (by omega)
    · skip
      refine v_iconst (k := 2) rfl (fun v63 e64 => ?_)
      refine q_goto ?_
      exact (jn1 v63 (by omega) (by omega)).up (by omega)
  · skip
    refine v_iconst (k := 1) rfl (fun v65 e66 => ?_)
    refine q_goto ?_
    exact (jn1 v65 (by omega) (by omega)).up (by omega)
theorem tv129 {h : xH} {Z : xO → xH → Prop} {F : xF} {x1 : Int32} (S : MS h) (M : MX 72 F) (hZ : ∀ (o : xO) (F' : xF), (MX 72 F' ∧ (((1 ≤ x1.toInt ∧ x1.toInt ≤ 100) ∧ (F' 8 0).toInt = 0) ∨ (¬ (1 ≤ x1.toInt ∧ x1.toInt ≤ 100) ∧ (F' 8 0).toInt = 1))) ∧ (o = .inl none) → Z o (mh h F')) : xC 300000000 129 [.inr (.inr (8, 1)), .inl x1] (mh h F) Z := by
  refine ⟨rfl, S.2.2.1, S.2.2.2, ?_⟩
  show xR _ 129 0 ([.inr (.inr (8, 1)), .inl x1, .inr (.inr (0, 0))], [], mh h F) Z
  have jn1 : ∀ (sjn1_0 : Int32), ((sjn1_0.toInt = 0 ∧ 1 ≤ x1.toInt ∧ x1.toInt ≤ 100) ∨ (sjn1_0.toInt = 1 ∧ ¬ (1 ≤ x1.toInt ∧ x1.toInt ≤ 100))) → xR (290000000) 129 16 ([.inr (.inr (8, 1)), .inl x1, .inr (.inr (0, 0))], [.inl sjn1_0, .inr (.inr (8, 1))], mh h F) Z := by
    intro sjn1_0 kjn1_0
    refine xR.blk c129_16 ?_
    refine q_callv (j := 1) rfl (by decide) ⟨Nat.le_refl 1, Nat.le_of_eq S.1.symm⟩ (Nat.le_of_ble_eq_true rfl) (Nat.le_of_ble_eq_true rfl) (by show x_ce h + 0 ≤ 0; rw [S.2.2.1]; exact Nat.le_refl 0) (by show x_so h + 0 ≤ 0; rw [S.2.2.2]; exact Nat.le_refl 0) ?_
    refine xC.up (tv91 (h := x_setc h 0 0) (F := F) (x1 := sjn1_0) S.set  (fun o4 F5 hp => ?_)) (by omega)
    obtain ⟨q8, ⟨v7, rfl, q6⟩⟩ := hp
    subst q8
    show x_seq _ _ _ _ ([.inr (.inr (8, 1)), .inl x1, .inr (.inr (0, 0))], [.inl v7], mh h (x_u2 F 8 0 sjn1_0))
    refine v_if_eq (fun d9 => ?_) (fun d9 => ?_)
    · skip
      refine xR.blk c129_23 ?_
      refine v_iconst (k := 0) rfl (fun v10 e11 => ?_)
      refine q_istore (Nat.le_of_ble_eq_true rfl) ?_
      show x_seq _ _ _ _ ([.inr (.inr (8, 1)), .inl x1, .inl v10], [], mh h (x_u2 F 8 0 sjn1_0))
      refine q_goto ?_
      have lp12 : ∀ (m13 : Nat) (ylp12_2 : Int32) (F15 : xF), (MX 72 F15) → ((F15 8 0).toInt = 0) → (0 ≤ ylp12_2.toInt ∧ ylp12_2.toInt ≤ 100) → (100 - ylp12_2.toInt).toNat < m13 → xR (10 + 2100000 * m13) 129 25 ([.inr (.inr (8, 1)), .inl x1, .inl ylp12_2], [], mh h F15) Z := by
        intro m13
        induction m13 with
        | zero => intro ylp12_2 F15 klp12_0 klp12_1 klp12_2 kmlp12; exact absurd kmlp12 (by omega)
        | succ m13 ih14 =>
          intro ylp12_2 F15 klp12_0 klp12_1 klp12_2 kmlp12
          rw [show 10 + 2100000 * (m13 + 1) = 10 + 2100000 * m13 + 2100000 by omega]
          refine xR.blk c129_25 ?_
          refine q_iload rfl ?_
          refine q_iload rfl ?_
          refine v_icmp_ge (fun d16 => ?_) (fun d16 => ?_)
          · skip
            refine xR.blk c129_40 ?_
            exact q_ret (hZ _ _ ⟨⟨klp12_0, by omega⟩, rfl⟩)
          · skip
            refine q_aload rfl (by decide) ?_
            refine q_callv (j := 1) rfl (by decide) ⟨Nat.le_refl 1, Nat.le_of_eq S.1.symm⟩ (Nat.le_of_ble_eq_true rfl) (Nat.le_of_ble_eq_true rfl) (by show x_ce h + 0 ≤ 0; rw [S.2.2.1]; exact Nat.le_refl 0) (by show x_so h + 0 ≤ 0; rw [S.2.2.2]; exact Nat.le_refl 0) ?_
            refine xC.up (tv128 (h := x_setc h 0 0) (F := F15)  S.set klp12_0 (fun o17 F18 hp => ?_)) (by omega)
            obtain ⟨q21, rfl⟩ := hp
            show x_seq _ _ _ _ ([.inr (.inr (8, 1)), .inl x1, .inl ylp12_2], [], mh h F18)
            have e22 : (F18 8 0).toInt = 0 := by rw [q21.2 8 0 rfl]; omega
            refine v_iinc (k := 1) rfl rfl (by omega) (by omega) (fun v23 e24 => ?_)
            show x_seq _ _ _ _ ([.inr (.inr (8, 1)), .inl x1, .inl v23], [], mh h F18)
            refine q_goto ?_
            exact (ih14 v23 F18 (q21.1) (by omega) (by omega) (by omega)).up (by omega)
      exact (lp12 101 v10 (x_u2 F 8 0 sjn1_0) ((MX.putf (k := 0) (v := sjn1_0) M (fun lo hi hm => by simp only [mfl, List.mem_cons, Prod.mk.injEq, List.not_mem_nil, or_false] at hm; omega))) (by rw [show (x_u2 F 8 0 sjn1_0) 8 0 = sjn1_0 from (by rw [u2_eq])]; omega) (by omega) (by omega)).up (by omega)
    · skip
      exact q_ret (hZ _ _ ⟨⟨(MX.putf (k := 0) (v := sjn1_0) M (fun lo hi hm => by simp only [mfl, List.mem_cons, Prod.mk.injEq, List.not_mem_nil, or_false] at hm; omega)), by rw [show (x_u2 F 8 0 sjn1_0) 8 0 = sjn1_0 from (by rw [u2_eq])]; omega⟩, rfl⟩)
  refine xR.blk c129_0 ?_
  refine q_aload rfl (by decide) ?_
  refine q_iload rfl ?_
  refine v_iconst (k := 1) rfl (fun v25 e26 => ?_)
  refine v_iconst (k := 100) rfl (fun v27 e28 => ?_)
  refine q_call (Nat.le_of_ble_eq_true rfl) (Nat.le_of_ble_eq_true rfl) (by show x_ce h + 0 ≤ 0; rw [S.2.2.1]; exact Nat.le_refl 0) (by show x_so h + 0 ≤ 0; rw [S.2.2.2]; exact Nat.le_refl 0) ?_
  refine xC.up (tv92 (h := x_setc h 0 0) (F := F) (x0 := x1) (x1 := v25) (x2 := v27) S.set  (fun o29 F30 hp => ?_)) (by omega)
  obtain ⟨hF33, ⟨v32, rfl, q31⟩⟩ := hp
  rw [hF33]
  show x_seq _ _ _ _ ([.inr (.inr (8, 1)), .inl x1, .inr (.inr (0, 0))], [.inl v32, .inr (.inr (8, 1))], mh h F)
  refine v_if_eq (fun d34 => ?_) (fun d34 => ?_)
  · skip
    refine xR.blk c129_15 ?_
    refine v_iconst (k := 1) rfl (fun v35 e36 => ?_)
    refine q_goto ?_
    exact (jn1 v35 (by omega)).up (by omega)
  · skip
    refine v_iconst (k := 0) rfl (fun v37 e38 => ?_)
    refine q_goto ?_
    exact (jn1 v37 (by omega)).up (by omega)
theorem tv130 {h : xH} {Z : xO → xH → Prop} {F : xF} {x1 : Int32} {x2 : Int32} (S : MS h) (g2 : 0 ≤ x2.toInt ∧ x2.toInt ≤ 1) (M : MX 72 F) (hZ : ∀ (o : xO) (F' : xF), (MX 72 F') ∧ (∃ v : Int32, o = .inl (some (.inl v)) ∧ (0 ≤ v.toInt ∧ v.toInt ≤ 1)) → Z o (mh h F')) : xC 13000 130 [.inr (.inr (8, 1)), .inl x1, .inl x2] (mh h F) Z := by
  refine ⟨rfl, S.2.2.1, S.2.2.2, ?_⟩
  have r20 := M.fl (k := 20) (lo := 0) (hi := 16) (by decide)
  show xR _ 130 0 ([.inr (.inr (8, 1)), .inl x1, .inl x2, .inr (.inr (0, 0))], [], mh h F) Z
  have jn1 : ∀ (sjn1_0 : Int32), (0 ≤ sjn1_0.toInt ∧ sjn1_0.toInt ≤ 1) → (sjn1_0.toInt = 0 → 0 ≤ x1.toInt ∧ x1.toInt ≤ (F 8 20).toInt - 1) → xR (12000) 130 20 ([.inr (.inr (8, 1)), .inl x1, .inl x2, .inr (.inr (0, 0))], [.inl sjn1_0, .inr (.inr (8, 1))], mh h F) Z := by
    intro sjn1_0 kjn1_0 kjn1_1
    refine xR.blk c130_20 ?_
    refine q_callv (j := 1) rfl (by decide) ⟨Nat.le_refl 1, Nat.le_of_eq S.1.symm⟩ (Nat.le_of_ble_eq_true rfl) (Nat.le_of_ble_eq_true rfl) (by show x_ce h + 0 ≤ 0; rw [S.2.2.1]; exact Nat.le_refl 0) (by show x_so h + 0 ≤ 0; rw [S.2.2.2]; exact Nat.le_refl 0) ?_
    refine xC.up (tv91 (h := x_setc h 0 0) (F := F) (x1 := sjn1_0) S.set  (fun o4 F5 hp => ?_)) (by omega)
    obtain ⟨q8, ⟨v7, rfl, q6⟩⟩ := hp
    subst q8
    show x_seq _ _ _ _ ([.inr (.inr (8, 1)), .inl x1, .inl x2, .inr (.inr (0, 0))], [.inl v7], mh h (x_u2 F 8 0 sjn1_0))
    refine v_if_eq (fun d9 => ?_) (fun d9 => ?_)
    · skip
      refine xR.blk c130_28 ?_
      refine q_aload rfl (by decide) ?_
      refine m_gfr S (n := 16) (by decide) ?_
      refine q_iload rfl ?_
      refine m_ald (k := 24) (n := 16) S (by decide) (by omega) (by omega) ?_
      have e10 : 0 ≤ (F 42 x1.toNatClampNeg).toInt ∧ (F 42 x1.toNatClampNeg).toInt ≤ 1 := M.rg (lo := 0) (hi := 1) (by decide) _
      show x_seq _ _ _ _ ([.inr (.inr (8, 1)), .inl x1, .inl x2, .inr (.inr (0, 0))], [.inl (F 42 x1.toNatClampNeg)], mh h (x_u2 F 8 0 sjn1_0))
      refine q_istore (Nat.le_of_ble_eq_true rfl) ?_
      show x_seq _ _ _ _ ([.inr (.inr (8, 1)), .inl x1, .inl x2, .inl (F 42 x1.toNatClampNeg)], [], mh h (x_u2 F 8 0 sjn1_0))
      refine q_aload rfl (by decide) ?_
      refine m_gfr S (n := 16) (by decide) ?_
      refine q_iload rfl ?_
      refine q_iload rfl ?_
      refine m_zst (k := 24) (n := 16) S (by decide) (by omega) (by omega) (i32_01 (by omega)) ?_
      show x_seq _ _ _ _ ([.inr (.inr (8, 1)), .inl x1, .inl x2, .inl (F 42 x1.toNatClampNeg)], [], mh h (x_u2 (x_u2 F 8 0 sjn1_0) 42 x1.toNatClampNeg x2))
      refine q_iload rfl ?_
      refine v_if_eq (fun d11 => ?_) (fun d11 => ?_)
      · skip
        refine xR.blk c130_66 ?_
        refine q_iload rfl ?_
        exact q_zret (i32_01 (by omega)) (hZ _ _ ⟨(MX.put (K := 42) (i := x1.toNatClampNeg) (v := x2) (MX.putf (k := 0) (v := sjn1_0) M (fun lo hi hm => by simp only [mfl, List.mem_cons, Prod.mk.injEq, List.not_mem_nil, or_false] at hm; omega)) (fun lo hi hm => by simp only [mrl, List.mem_cons, Prod.mk.injEq, List.not_mem_nil, or_false] at hm; omega) (by decide) (fun z => absurd z (by decide)) (Or.inl rfl)), ⟨_, rfl, by omega⟩⟩)
      · skip
        refine q_aload rfl (by decide) ?_
        refine m_gfr S (n := 16) (by decide) ?_
        refine q_iload rfl ?_
        refine m_ald (k := 23) (n := 16) S (by decide) (by omega) (by omega) ?_
        have e12 : -1 ≤ (F 41 x1.toNatClampNeg).toInt ∧ (F 41 x1.toNatClampNeg).toInt ≤ 71 := M.rg (lo := -1) (hi := 71) (by decide) _
        show x_seq _ _ _ _ ([.inr (.inr (8, 1)), .inl x1, .inl x2, .inl (F 42 x1.toNatClampNeg)], [.inl (F 41 x1.toNatClampNeg)], mh h (x_u2 (x_u2 F 8 0 sjn1_0) 42 x1.toNatClampNeg x2))
        refine v_if_lt (fun d13 => ?_) (fun d13 => ?_)
        · skip
          refine xR.blk c130_66 ?_
          refine q_iload rfl ?_
          exact q_zret (i32_01 (by omega)) (hZ _ _ ⟨(MX.put (K := 42) (i := x1.toNatClampNeg) (v := x2) (MX.putf (k := 0) (v := sjn1_0) M (fun lo hi hm => by simp only [mfl, List.mem_cons, Prod.mk.injEq, List.not_mem_nil, or_false] at hm; omega)) (fun lo hi hm => by simp only [mrl, List.mem_cons, Prod.mk.injEq, List.not_mem_nil, or_false] at hm; omega) (by decide) (fun z => absurd z (by decide)) (Or.inl rfl)), ⟨_, rfl, by omega⟩⟩)
        · skip
          refine q_aload rfl (by decide) ?_
          refine q_aload rfl (by decide) ?_
          refine m_gfr S (n := 16) (by decide) ?_
          refine q_iload rfl ?_
          refine m_ald (k := 23) (n := 16) S (by decide) (by omega) (by omega) ?_
          have e14 : -1 ≤ (F 41 x1.toNatClampNeg).toInt ∧ (F 41 x1.toNatClampNeg).toInt ≤ 71 := M.rg (lo := -1) (hi := 71) (by decide) _
          show x_seq _ _ _ _ ([.inr (.inr (8, 1)), .inl x1, .inl x2, .inl (F 42 x1.toNatClampNeg)], [.inl (F 41 x1.toNatClampNeg), .inr (.inr (8, 1))], mh h (x_u2 (x_u2 F 8 0 sjn1_0) 42 x1.toNatClampNeg x2))
          refine v_iconst (k := 4) rfl (fun v15 e16 => ?_)
          refine q_callv (j := 1) rfl (by decide) ⟨Nat.le_refl 1, Nat.le_of_eq S.1.symm⟩ (Nat.le_of_ble_eq_true rfl) (Nat.le_of_ble_eq_true rfl) (by show x_ce h + 0 ≤ 0; rw [S.2.2.1]; exact Nat.le_refl 0) (by show x_so h + 0 ≤ 0; rw [S.2.2.2]; exact Nat.le_refl 0) ?_
          refine xC.up (tv106 (h := x_setc h 0 0) (F := (x_u2 (x_u2 F 8 0 sjn1_0) 42 x1.toNatClampNeg x2)) (x1 := (F 41 x1.toNatClampNeg)) (x2 := v15) S.set (by omega) (MX.put (K := 42) (i := x1.toNatClampNeg) (v := x2) (MX.putf (k := 0) (v := sjn1_0) M (fun lo hi hm => by simp only [mfl, List.mem_cons, Prod.mk.injEq, List.not_mem_nil, or_false] at hm; omega)) (fun lo hi hm => by simp only [mrl, List.mem_cons, Prod.mk.injEq, List.not_mem_nil, or_false] at hm; omega) (by decide) (fun z => absurd z (by decide)) (Or.inl rfl)) (fun o17 F18 hp => ?_)) (by omega)
          obtain ⟨q21, rfl⟩ := hp
          show x_seq _ _ _ _ ([.inr (.inr (8, 1)), .inl x1, .inl x2, .inl (F 42 x1.toNatClampNeg)], [], mh h F18)
          refine q_goto ?_
          refine xR.blk c130_66 ?_
          refine q_iload rfl ?_
          exact q_zret (i32_01 (by omega)) (hZ _ _ ⟨q21.1, ⟨_, rfl, by omega⟩⟩)
    · skip
      refine v_iconst (k := 0) rfl (fun v22 e23 => ?_)
      exact q_zret (i32_01 (by omega)) (hZ _ _ ⟨(MX.putf (k := 0) (v := sjn1_0) M (fun lo hi hm => by simp only [mfl, List.mem_cons, Prod.mk.injEq, List.not_mem_nil, or_false] at hm; omega)), ⟨_, rfl, by omega⟩⟩)
  refine xR.blk c130_0 ?_
  refine q_aload rfl (by decide) ?_
  refine q_iload rfl ?_
  refine v_iconst (k := 0) rfl (fun v24 e25 => ?_)
  refine q_aload rfl (by decide) ?_
  refine m_gfi S ?_
  have e26 : 0 ≤ (F 8 20).toInt ∧ (F 8 20).toInt ≤ 16 := M.fl (lo := 0) (hi := 16) (by decide)
  refine v_iconst (k := 1) rfl (fun v27 e28 => ?_)
  refine v_isub (by omega) (fun v29 e30 => ?_)
  refine q_call (Nat.le_of_ble_eq_true rfl) (Nat.le_of_ble_eq_true rfl) (by show x_ce h + 0 ≤ 0; rw [S.2.2.1]; exact Nat.le_refl 0) (by show x_so h + 0 ≤ 0; rw [S.2.2.2]; exact Nat.le_refl 0) ?_
  refine xC.up (tv92 (h := x_setc h 0 0) (F := F) (x0 := x1) (x1 := v24) (x2 := v29) S.set  (fun o31 F32 hp => ?_)) (by omega)
  obtain ⟨hF35, ⟨v34, rfl, q33⟩⟩ := hp
  rw [hF35]
  show x_seq _ _ _ _ ([.inr (.inr (8, 1)), .inl x1, .inl x2, .inr (.inr (0, 0))], [.inl v34, .inr (.inr (8, 1))], mh h F)
  refine v_if_eq (fun d36 => ?_) (fun d36 => ?_)
  · skip
    refine xR.blk c130_19 ?_
    refine v_iconst (k := 1) rfl (fun v37 e38 => ?_)
    refine q_goto ?_
    exact (jn1 v37 (by omega) (by omega)).up (by omega)
  · skip
    refine v_iconst (k := 0) rfl (fun v39 e40 => ?_)
    refine q_goto ?_
    exact (jn1 v39 (by omega) (by omega)).up (by omega)
theorem tv131 {h : xH} {Z : xO → xH → Prop} {F : xF} {x1 : Int32} {x2 : Int32} {x3 : Int32} (S : MS h) (g3 : 0 ≤ x3.toInt ∧ x3.toInt ≤ 1) (M : MX 72 F) (hZ : ∀ (o : xO) (F' : xF), (MX 72 F') ∧ (∃ v : Int32, o = .inl (some (.inl v)) ∧ (0 ≤ v.toInt ∧ v.toInt ≤ 1)) → Z o (mh h F')) : xC 13000 131 [.inr (.inr (8, 1)), .inl x1, .inl x2, .inl x3] (mh h F) Z := by
  refine ⟨rfl, S.2.2.1, S.2.2.2, ?_⟩
  show xR _ 131 0 ([.inr (.inr (8, 1)), .inl x1, .inl x2, .inl x3, .inr (.inr (0, 0))], [], mh h F) Z
  have jn1 : ∀ (sjn1_0 : Int32), (0 ≤ sjn1_0.toInt ∧ sjn1_0.toInt ≤ 1) → (sjn1_0.toInt = 0 → 0 ≤ x1.toInt ∧ x1.toInt ≤ 2 ∧ 0 ≤ x2.toInt ∧ x2.toInt ≤ 23) → xR (12000) 131 14 ([.inr (.inr (8, 1)), .inl x1, .inl x2, .inl x3, .inr (.inr (0, 0))], [.inl sjn1_0, .inr (.inr (8, 1))], mh h F) Z := by
    intro sjn1_0 kjn1_0 kjn1_1
    refine xR.blk c131_14 ?_
    refine q_callv (j := 1) rfl (by decide) ⟨Nat.le_refl 1, Nat.le_of_eq S.1.symm⟩ (Nat.le_of_ble_eq_true rfl) (Nat.le_of_ble_eq_true rfl) (by show x_ce h + 0 ≤ 0; rw [S.2.2.1]; exact Nat.le_refl 0) (by show x_so h + 0 ≤ 0; rw [S.2.2.2]; exact Nat.le_refl 0) ?_
    refine xC.up (tv91 (h := x_setc h 0 0) (F := F) (x1 := sjn1_0) S.set  (fun o4 F5 hp => ?_)) (by omega)
    obtain ⟨q8, ⟨v7, rfl, q6⟩⟩ := hp
    subst q8
    show x_seq _ _ _ _ ([.inr (.inr (8, 1)), .inl x1, .inl x2, .inl x3, .inr (.inr (0, 0))], [.inl v7], mh h (x_u2 F 8 0 sjn1_0))
    refine v_if_eq (fun d9 => ?_) (fun d9 => ?_)
    · skip
      refine xR.blk c131_22 ?_
      refine q_aload rfl (by decide) ?_
      refine m_gfr S (n := 72) (by decide) ?_
      refine v_iconst (k := 24) rfl (fun v10 e11 => ?_)
      refine q_iload rfl ?_
      refine v_imul' e11 (by omega) (fun v12 e13 => ?_)
      refine q_iload rfl ?_
      refine v_iadd (by omega) (fun v14 e15 => ?_)
      refine m_ald (k := 9) (n := 72) S (by decide) (by omega) (by omega) ?_
      have e16 : -1 ≤ (F 28 v14.toNatClampNeg).toInt ∧ (F 28 v14.toNatClampNeg).toInt ≤ 71 := M.rg (lo := -1) (hi := 71) (by decide) _
      show x_seq _ _ _ _ ([.inr (.inr (8, 1)), .inl x1, .inl x2, .inl x3, .inr (.inr (0, 0))], [.inl (F 28 v14.toNatClampNeg)], mh h (x_u2 F 8 0 sjn1_0))
      refine q_istore (Nat.le_of_ble_eq_true rfl) ?_
      show x_seq _ _ _ _ ([.inr (.inr (8, 1)), .inl x1, .inl x2, .inl x3, .inl (F 28 v14.toNatClampNeg)], [], mh h (x_u2 F 8 0 sjn1_0))
      refine q_iload rfl ?_
      refine v_if_lt (fun d17 => ?_) (fun d17 => ?_)
      · skip
        refine xR.blk c131_51 ?_
        refine v_iconst (k := 0) rfl (fun v18 e19 => ?_)
        exact q_zret (i32_01 (by omega)) (hZ _ _ ⟨(MX.putf (k := 0) (v := sjn1_0) M (fun lo hi hm => by simp only [mfl, List.mem_cons, Prod.mk.injEq, List.not_mem_nil, or_false] at hm; omega)), ⟨_, rfl, by omega⟩⟩)
      · skip
        refine q_aload rfl (by decide) ?_
        refine m_gfr S (n := 72) (by decide) ?_
        refine q_iload rfl ?_
        refine m_ald (k := 29) (n := 72) S (by decide) (by omega) (by omega) ?_
        have e20 : 0 ≤ (F 47 (F 28 v14.toNatClampNeg).toNatClampNeg).toInt ∧ (F 47 (F 28 v14.toNatClampNeg).toNatClampNeg).toInt ≤ 5 := M.rg (lo := 0) (hi := 5) (by decide) _
        show x_seq _ _ _ _ ([.inr (.inr (8, 1)), .inl x1, .inl x2, .inl x3, .inl (F 28 v14.toNatClampNeg)], [.inl (F 47 (F 28 v14.toNatClampNeg).toNatClampNeg)], mh h (x_u2 F 8 0 sjn1_0))
        refine v_iconst (k := 5) rfl (fun v21 e22 => ?_)
        refine v_icmp_eq (fun d23 => ?_) (fun d23 => ?_)
        · skip
          refine xR.blk c131_53 ?_
          refine q_aload rfl (by decide) ?_
          refine m_gfr S (n := 72) (by decide) ?_
          refine q_iload rfl ?_
          refine q_iload rfl ?_
          refine m_zst (k := 42) (n := 72) S (by decide) (by omega) (by omega) (i32_01 (by omega)) ?_
          show x_seq _ _ _ _ ([.inr (.inr (8, 1)), .inl x1, .inl x2, .inl x3, .inl (F 28 v14.toNatClampNeg)], [], mh h (x_u2 (x_u2 F 8 0 sjn1_0) 60 (F 28 v14.toNatClampNeg).toNatClampNeg x3))
          refine q_iload rfl ?_
          refine v_if_ne (fun d24 => ?_) (fun d24 => ?_)
          · skip
            refine xR.blk c131_82 ?_
            refine v_iconst (k := 1) rfl (fun v25 e26 => ?_)
            exact q_zret (i32_01 (by omega)) (hZ _ _ ⟨(MX.put (K := 60) (i := (F 28 v14.toNatClampNeg).toNatClampNeg) (v := x3) (MX.putf (k := 0) (v := sjn1_0) M (fun lo hi hm => by simp only [mfl, List.mem_cons, Prod.mk.injEq, List.not_mem_nil, or_false] at hm; omega)) (fun lo hi hm => by simp only [mrl, List.mem_cons, Prod.mk.injEq, List.not_mem_nil, or_false] at hm; omega) (by decide) (fun z => absurd z (by decide)) (Or.inl rfl)), ⟨_, rfl, by omega⟩⟩)
          · skip
            refine q_aload rfl (by decide) ?_
            refine m_gfr S (n := 72) (by decide) ?_
            refine q_iload rfl ?_
            refine m_ald (k := 3) (n := 72) S (by decide) (by omega) (by omega) ?_
            show x_seq _ _ _ _ ([.inr (.inr (8, 1)), .inl x1, .inl x2, .inl x3, .inl (F 28 v14.toNatClampNeg)], [.inl (F 22 (F 28 v14.toNatClampNeg).toNatClampNeg)], mh h (x_u2 (x_u2 F 8 0 sjn1_0) 60 (F 28 v14.toNatClampNeg).toNatClampNeg x3))
            refine v_if_ne (fun d27 => ?_) (fun d27 => ?_)
            · skip
              refine xR.blk c131_82 ?_
              refine v_iconst (k := 1) rfl (fun v28 e29 => ?_)
              exact q_zret (i32_01 (by omega)) (hZ _ _ ⟨(MX.put (K := 60) (i := (F 28 v14.toNatClampNeg).toNatClampNeg) (v := x3) (MX.putf (k := 0) (v := sjn1_0) M (fun lo hi hm => by simp only [mfl, List.mem_cons, Prod.mk.injEq, List.not_mem_nil, or_false] at hm; omega)) (fun lo hi hm => by simp only [mrl, List.mem_cons, Prod.mk.injEq, List.not_mem_nil, or_false] at hm; omega) (by decide) (fun z => absurd z (by decide)) (Or.inl rfl)), ⟨_, rfl, by omega⟩⟩)
            · skip
              refine q_aload rfl (by decide) ?_
              refine q_iload rfl ?_
              refine v_iconst (k := 3) rfl (fun v30 e31 => ?_)
              refine q_callv (j := 1) rfl (by decide) ⟨Nat.le_refl 1, Nat.le_of_eq S.1.symm⟩ (Nat.le_of_ble_eq_true rfl) (Nat.le_of_ble_eq_true rfl) (by show x_ce h + 0 ≤ 0; rw [S.2.2.1]; exact Nat.le_refl 0) (by show x_so h + 0 ≤ 0; rw [S.2.2.2]; exact Nat.le_refl 0) ?_
              refine xC.up (tv106 (h := x_setc h 0 0) (F := (x_u2 (x_u2 F 8 0 sjn1_0) 60 (F 28 v14.toNatClampNeg).toNatClampNeg x3)) (x1 := (F 28 v14.toNatClampNeg)) (x2 := v30) S.set (by omega) (MX.put (K := 60) (i := (F 28 v14.toNatClampNeg).toNatClampNeg) (v := x3) (MX.putf (k := 0) (v := sjn1_0) M (fun lo hi hm => by simp only [mfl, List.mem_cons, Prod.mk.injEq, List.not_mem_nil, or_false] at hm; omega)) (fun lo hi hm => by simp only [mrl, List.mem_cons, Prod.mk.injEq, List.not_mem_nil, or_false] at hm; omega) (by decide) (fun z => absurd z (by decide)) (Or.inl rfl)) (fun o32 F33 hp => ?_)) (by omega)
              obtain ⟨q36, rfl⟩ := hp
              show x_seq _ _ _ _ ([.inr (.inr (8, 1)), .inl x1, .inl x2, .inl x3, .inl (F 28 v14.toNatClampNeg)], [], mh h F33)
              refine q_goto ?_
              refine xR.blk c131_82 ?_
              refine v_iconst (k := 1) rfl (fun v37 e38 => ?_)
              exact q_zret (i32_01 (by omega)) (hZ _ _ ⟨q36.1, ⟨_, rfl, by omega⟩⟩)
        · skip
          refine q_goto ?_
          refine xR.blk c131_51 ?_
          refine v_iconst (k := 0) rfl (fun v39 e40 => ?_)
          exact q_zret (i32_01 (by omega)) (hZ _ _ ⟨(MX.putf (k := 0) (v := sjn1_0) M (fun lo hi hm => by simp only [mfl, List.mem_cons, Prod.mk.injEq, List.not_mem_nil, or_false] at hm; omega)), ⟨_, rfl, by omega⟩⟩)
    · skip
      refine v_iconst (k := 0) rfl (fun v41 e42 => ?_)
      exact q_zret (i32_01 (by omega)) (hZ _ _ ⟨(MX.putf (k := 0) (v := sjn1_0) M (fun lo hi hm => by simp only [mfl, List.mem_cons, Prod.mk.injEq, List.not_mem_nil, or_false] at hm; omega)), ⟨_, rfl, by omega⟩⟩)
  refine xR.blk c131_0 ?_
  refine q_aload rfl (by decide) ?_
  refine q_iload rfl ?_
  refine q_iload rfl ?_
  refine q_call (Nat.le_of_ble_eq_true rfl) (Nat.le_of_ble_eq_true rfl) (by show x_ce h + 0 ≤ 0; rw [S.2.2.1]; exact Nat.le_refl 0) (by show x_so h + 0 ≤ 0; rw [S.2.2.2]; exact Nat.le_refl 0) ?_
  refine xC.up (tv93 (h := x_setc h 0 0) (F := F) (x0 := x1) (x1 := x2) S.set  (fun o43 F44 hp => ?_)) (by omega)
  obtain ⟨hF47, ⟨v46, rfl, q45⟩⟩ := hp
  rw [hF47]
  show x_seq _ _ _ _ ([.inr (.inr (8, 1)), .inl x1, .inl x2, .inl x3, .inr (.inr (0, 0))], [.inl v46, .inr (.inr (8, 1))], mh h F)
  refine v_if_eq (fun d48 => ?_) (fun d48 => ?_)
  · skip
    refine xR.blk c131_13 ?_
    refine v_iconst (k := 1) rfl (fun v49 e50 => ?_)
    refine q_goto ?_
    exact (jn1 v49 (by omega) (by omega)).up (by omega)
  · skip
    refine v_iconst (k := 0) rfl (fun v51 e52 => ?_)
    refine q_goto ?_
    exact (jn1 v51 (by omega) (by omega)).up (by omega)
theorem tv132 {h : xH} {Z : xO → xH → Prop} {F : xF} {x1 : Int32} {x2 : Int32} (S : MS h) (M : MX 72 F) (hZ : ∀ (o : xO) (F' : xF), (MX 72 F') ∧ (∃ v : Int32, o = .inl (some (.inl v))) → Z o (mh h F')) : xC 100 132 [.inr (.inr (8, 1)), .inl x1, .inl x2] (mh h F) Z := by
  refine ⟨rfl, S.2.2.1, S.2.2.2, ?_⟩
  show xR _ 132 0 ([.inr (.inr (8, 1)), .inl x1, .inl x2, .inr (.inr (0, 0))], [], mh h F) Z
  have jn1 : ∀ (sjn1_0 : Int32), (0 ≤ sjn1_0.toInt ∧ sjn1_0.toInt ≤ 1) → (sjn1_0.toInt = 0 → 0 ≤ x1.toInt ∧ x1.toInt ≤ 2 ∧ 0 ≤ x2.toInt ∧ x2.toInt ≤ 23) → xR (90) 132 14 ([.inr (.inr (8, 1)), .inl x1, .inl x2, .inr (.inr (0, 0))], [.inl sjn1_0, .inr (.inr (8, 1))], mh h F) Z := by
    intro sjn1_0 kjn1_0 kjn1_1
    refine xR.blk c132_14 ?_
    refine q_callv (j := 1) rfl (by decide) ⟨Nat.le_refl 1, Nat.le_of_eq S.1.symm⟩ (Nat.le_of_ble_eq_true rfl) (Nat.le_of_ble_eq_true rfl) (by show x_ce h + 0 ≤ 0; rw [S.2.2.1]; exact Nat.le_refl 0) (by show x_so h + 0 ≤ 0; rw [S.2.2.2]; exact Nat.le_refl 0) ?_
    refine xC.up (tv91 (h := x_setc h 0 0) (F := F) (x1 := sjn1_0) S.set  (fun o4 F5 hp => ?_)) (by omega)
    obtain ⟨q8, ⟨v7, rfl, q6⟩⟩ := hp
    subst q8
    show x_seq _ _ _ _ ([.inr (.inr (8, 1)), .inl x1, .inl x2, .inr (.inr (0, 0))], [.inl v7], mh h (x_u2 F 8 0 sjn1_0))
    refine v_if_eq (fun d9 => ?_) (fun d9 => ?_)
    · skip
      refine xR.blk c132_22 ?_
      refine v_iconst (k := 24) rfl (fun v10 e11 => ?_)
      refine q_iload rfl ?_
      refine v_imul' e11 (by omega) (fun v12 e13 => ?_)
      refine q_iload rfl ?_
      refine v_iadd (by omega) (fun v14 e15 => ?_)
      refine q_istore (Nat.le_of_ble_eq_true rfl) ?_
      show x_seq _ _ _ _ ([.inr (.inr (8, 1)), .inl x1, .inl x2, .inl v14], [], mh h (x_u2 F 8 0 sjn1_0))
      refine q_aload rfl (by decide) ?_
      refine m_gfr S (n := 72) (by decide) ?_
      refine q_iload rfl ?_
      refine m_ald (k := 29) (n := 72) S (by decide) (by omega) (by omega) ?_
      have e16 : 0 ≤ (F 47 v14.toNatClampNeg).toInt ∧ (F 47 v14.toNatClampNeg).toInt ≤ 5 := M.rg (lo := 0) (hi := 5) (by decide) _
      show x_seq _ _ _ _ ([.inr (.inr (8, 1)), .inl x1, .inl x2, .inl v14], [.inl (F 47 v14.toNatClampNeg)], mh h (x_u2 F 8 0 sjn1_0))
      refine v_iconst (k := 1) rfl (fun v17 e18 => ?_)
      refine v_icmp_ne (fun d19 => ?_) (fun d19 => ?_)
      · skip
        refine xR.blk c132_52 ?_
        refine q_aload rfl (by decide) ?_
        refine m_gfr S (n := 72) (by decide) ?_
        refine q_iload rfl ?_
        refine m_ald (k := 29) (n := 72) S (by decide) (by omega) (by omega) ?_
        have e20 : 0 ≤ (F 47 v14.toNatClampNeg).toInt ∧ (F 47 v14.toNatClampNeg).toInt ≤ 5 := M.rg (lo := 0) (hi := 5) (by decide) _
        show x_seq _ _ _ _ ([.inr (.inr (8, 1)), .inl x1, .inl x2, .inl v14], [.inl (F 47 v14.toNatClampNeg)], mh h (x_u2 F 8 0 sjn1_0))
        refine v_iconst (k := 4) rfl (fun v21 e22 => ?_)
        refine v_icmp_ne (fun d23 => ?_) (fun d23 => ?_)
        · skip
          refine xR.blk c132_66 ?_
          refine q_aload rfl (by decide) ?_
          refine m_gfr S (n := 72) (by decide) ?_
          refine q_iload rfl ?_
          refine m_ald (k := 4) (n := 72) S (by decide) (by omega) (by omega) ?_
          show x_seq _ _ _ _ ([.inr (.inr (8, 1)), .inl x1, .inl x2, .inl v14], [.inl (F 23 v14.toNatClampNeg)], mh h (x_u2 F 8 0 sjn1_0))
          refine q_goto ?_
          refine xR.blk c132_72 ?_
          exact q_iret (hZ _ _ ⟨(MX.putf (k := 0) (v := sjn1_0) M (fun lo hi hm => by simp only [mfl, List.mem_cons, Prod.mk.injEq, List.not_mem_nil, or_false] at hm; omega)), ⟨_, rfl⟩⟩)
        · skip
          refine v_iconst (k := 2) rfl (fun v24 e25 => ?_)
          refine q_goto ?_
          refine xR.blk c132_72 ?_
          exact q_iret (hZ _ _ ⟨(MX.putf (k := 0) (v := sjn1_0) M (fun lo hi hm => by simp only [mfl, List.mem_cons, Prod.mk.injEq, List.not_mem_nil, or_false] at hm; omega)), ⟨_, rfl⟩⟩)
      · skip
        refine q_aload rfl (by decide) ?_
        refine m_gfr S (n := 72) (by decide) ?_
        refine q_iload rfl ?_
        refine m_ald (k := 30) (n := 72) S (by decide) (by omega) (by omega) ?_
        have e26 : 0 ≤ (F 48 v14.toNatClampNeg).toInt ∧ (F 48 v14.toNatClampNeg).toInt ≤ 5 := M.rg (lo := 0) (hi := 5) (by decide) _
        show x_seq _ _ _ _ ([.inr (.inr (8, 1)), .inl x1, .inl x2, .inl v14], [.inl (F 48 v14.toNatClampNeg)], mh h (x_u2 F 8 0 sjn1_0))
        refine v_if_ne (fun d27 => ?_) (fun d27 => ?_)
        · skip
          refine xR.blk c132_52 ?_
          refine q_aload rfl (by decide) ?_
          refine m_gfr S (n := 72) (by decide) ?_
          refine q_iload rfl ?_
          refine m_ald (k := 29) (n := 72) S (by decide) (by omega) (by omega) ?_
          have e28 : 0 ≤ (F 47 v14.toNatClampNeg).toInt ∧ (F 47 v14.toNatClampNeg).toInt ≤ 5 := M.rg (lo := 0) (hi := 5) (by decide) _
          show x_seq _ _ _ _ ([.inr (.inr (8, 1)), .inl x1, .inl x2, .inl v14], [.inl (F 47 v14.toNatClampNeg)], mh h (x_u2 F 8 0 sjn1_0))
          refine v_iconst (k := 4) rfl (fun v29 e30 => ?_)
          refine v_icmp_ne (fun d31 => ?_) (fun d31 => ?_)
          · skip
            refine xR.blk c132_66 ?_
            refine q_aload rfl (by decide) ?_
            refine m_gfr S (n := 72) (by decide) ?_
            refine q_iload rfl ?_
            refine m_ald (k := 4) (n := 72) S (by decide) (by omega) (by omega) ?_
            show x_seq _ _ _ _ ([.inr (.inr (8, 1)), .inl x1, .inl x2, .inl v14], [.inl (F 23 v14.toNatClampNeg)], mh h (x_u2 F 8 0 sjn1_0))
            refine q_goto ?_
            refine xR.blk c132_72 ?_
            exact q_iret (hZ _ _ ⟨(MX.putf (k := 0) (v := sjn1_0) M (fun lo hi hm => by simp only [mfl, List.mem_cons, Prod.mk.injEq, List.not_mem_nil, or_false] at hm; omega)), ⟨_, rfl⟩⟩)
          · skip
            refine v_iconst (k := 2) rfl (fun v32 e33 => ?_)
            refine q_goto ?_
            refine xR.blk c132_72 ?_
            exact q_iret (hZ _ _ ⟨(MX.putf (k := 0) (v := sjn1_0) M (fun lo hi hm => by simp only [mfl, List.mem_cons, Prod.mk.injEq, List.not_mem_nil, or_false] at hm; omega)), ⟨_, rfl⟩⟩)
        · skip
          refine v_iconst (k := 1) rfl (fun v34 e35 => ?_)
          refine q_goto ?_
          refine xR.blk c132_72 ?_
          exact q_iret (hZ _ _ ⟨(MX.putf (k := 0) (v := sjn1_0) M (fun lo hi hm => by simp only [mfl, List.mem_cons, Prod.mk.injEq, List.not_mem_nil, or_false] at hm; omega)), ⟨_, rfl⟩⟩)
    · skip
      refine v_iconst (k := 0) rfl (fun v36 e37 => ?_)
      exact q_iret (hZ _ _ ⟨(MX.putf (k := 0) (v := sjn1_0) M (fun lo hi hm => by simp only [mfl, List.mem_cons, Prod.mk.injEq, List.not_mem_nil, or_false] at hm; omega)), ⟨_, rfl⟩⟩)
  refine xR.blk c132_0 ?_
  refine q_aload rfl (by decide) ?_
  refine q_iload rfl ?_
  refine q_iload rfl ?_
  refine q_call (Nat.le_of_ble_eq_true rfl) (Nat.le_of_ble_eq_true rfl) (by show x_ce h + 0 ≤ 0; rw [S.2.2.1]; exact Nat.le_refl 0) (by show x_so h + 0 ≤ 0; rw [S.2.2.2]; exact Nat.le_refl 0) ?_
  refine xC.up (tv93 (h := x_setc h 0 0) (F := F) (x0 := x1) (x1 := x2) S.set  (fun o38 F39 hp => ?_)) (by omega)
  obtain ⟨hF42, ⟨v41, rfl, q40⟩⟩ := hp
  rw [hF42]
  show x_seq _ _ _ _ ([.inr (.inr (8, 1)), .inl x1, .inl x2, .inr (.inr (0, 0))], [.inl v41, .inr (.inr (8, 1))], mh h F)
  refine v_if_eq (fun d43 => ?_) (fun d43 => ?_)
  · skip
    refine xR.blk c132_13 ?_
    refine v_iconst (k := 1) rfl (fun v44 e45 => ?_)
    refine q_goto ?_
    exact (jn1 v44 (by omega) (by omega)).up (by omega)
  · skip
    refine v_iconst (k := 0) rfl (fun v46 e47 => ?_)
    refine q_goto ?_
    exact (jn1 v46 (by omega) (by omega)).up (by omega)
theorem tv133 {h : xH} {Z : xO → xH → Prop} {F : xF} {x1 : Int32} {x2 : Int32} (S : MS h) (M : MX 72 F) (hZ : ∀ (o : xO) (F' : xF), (MX 72 F') ∧ (∃ v : Int32, o = .inl (some (.inl v)) ∧ (0 ≤ v.toInt ∧ v.toInt ≤ 1)) → Z o (mh h F')) : xC 100 133 [.inr (.inr (8, 1)), .inl x1, .inl x2] (mh h F) Z := by
  refine ⟨rfl, S.2.2.1, S.2.2.2, ?_⟩
  show xR _ 133 0 ([.inr (.inr (8, 1)), .inl x1, .inl x2, .inr (.inr (0, 0))], [], mh h F) Z
  have jn1 : ∀ (sjn1_0 : Int32), (0 ≤ sjn1_0.toInt ∧ sjn1_0.toInt ≤ 1) → (sjn1_0.toInt = 0 → 0 ≤ x1.toInt ∧ x1.toInt ≤ 2 ∧ 0 ≤ x2.toInt ∧ x2.toInt ≤ 23) → xR (90) 133 14 ([.inr (.inr (8, 1)), .inl x1, .inl x2, .inr (.inr (0, 0))], [.inl sjn1_0, .inr (.inr (8, 1))], mh h F) Z := by
    intro sjn1_0 kjn1_0 kjn1_1
    refine xR.blk c133_14 ?_
    refine q_callv (j := 1) rfl (by decide) ⟨Nat.le_refl 1, Nat.le_of_eq S.1.symm⟩ (Nat.le_of_ble_eq_true rfl) (Nat.le_of_ble_eq_true rfl) (by show x_ce h + 0 ≤ 0; rw [S.2.2.1]; exact Nat.le_refl 0) (by show x_so h + 0 ≤ 0; rw [S.2.2.2]; exact Nat.le_refl 0) ?_
    refine xC.up (tv91 (h := x_setc h 0 0) (F := F) (x1 := sjn1_0) S.set  (fun o4 F5 hp => ?_)) (by omega)
    obtain ⟨q8, ⟨v7, rfl, q6⟩⟩ := hp
    subst q8
    show x_seq _ _ _ _ ([.inr (.inr (8, 1)), .inl x1, .inl x2, .inr (.inr (0, 0))], [.inl v7], mh h (x_u2 F 8 0 sjn1_0))
    refine v_if_eq (fun d9 => ?_) (fun d9 => ?_)
    · skip
      refine xR.blk c133_22 ?_
      refine q_aload rfl (by decide) ?_
      refine m_gfr S (n := 72) (by decide) ?_
      refine v_iconst (k := 24) rfl (fun v10 e11 => ?_)
      refine q_iload rfl ?_
      refine v_imul' e11 (by omega) (fun v12 e13 => ?_)
      refine q_iload rfl ?_
      refine v_iadd (by omega) (fun v14 e15 => ?_)
      refine m_ald (k := 9) (n := 72) S (by decide) (by omega) (by omega) ?_
      have e16 : -1 ≤ (F 28 v14.toNatClampNeg).toInt ∧ (F 28 v14.toNatClampNeg).toInt ≤ 71 := M.rg (lo := -1) (hi := 71) (by decide) _
      show x_seq _ _ _ _ ([.inr (.inr (8, 1)), .inl x1, .inl x2, .inr (.inr (0, 0))], [.inl (F 28 v14.toNatClampNeg)], mh h (x_u2 F 8 0 sjn1_0))
      refine q_istore (Nat.le_of_ble_eq_true rfl) ?_
      show x_seq _ _ _ _ ([.inr (.inr (8, 1)), .inl x1, .inl x2, .inl (F 28 v14.toNatClampNeg)], [], mh h (x_u2 F 8 0 sjn1_0))
      refine q_iload rfl ?_
      refine v_if_lt (fun d17 => ?_) (fun d17 => ?_)
      · skip
        refine xR.blk c133_52 ?_
        refine v_iconst (k := 0) rfl (fun v18 e19 => ?_)
        refine q_goto ?_
        refine xR.blk c133_53 ?_
        exact q_zret (i32_01 (by omega)) (hZ _ _ ⟨(MX.putf (k := 0) (v := sjn1_0) M (fun lo hi hm => by simp only [mfl, List.mem_cons, Prod.mk.injEq, List.not_mem_nil, or_false] at hm; omega)), ⟨_, rfl, by omega⟩⟩)
      · skip
        refine q_aload rfl (by decide) ?_
        refine m_gfr S (n := 72) (by decide) ?_
        refine q_iload rfl ?_
        refine m_ald (k := 29) (n := 72) S (by decide) (by omega) (by omega) ?_
        have e20 : 0 ≤ (F 47 (F 28 v14.toNatClampNeg).toNatClampNeg).toInt ∧ (F 47 (F 28 v14.toNatClampNeg).toNatClampNeg).toInt ≤ 5 := M.rg (lo := 0) (hi := 5) (by decide) _
        show x_seq _ _ _ _ ([.inr (.inr (8, 1)), .inl x1, .inl x2, .inl (F 28 v14.toNatClampNeg)], [.inl (F 47 (F 28 v14.toNatClampNeg).toNatClampNeg)], mh h (x_u2 F 8 0 sjn1_0))
        refine v_iconst (k := 4) rfl (fun v21 e22 => ?_)
        refine v_icmp_ne (fun d23 => ?_) (fun d23 => ?_)
        · skip
          refine xR.blk c133_52 ?_
          refine v_iconst (k := 0) rfl (fun v24 e25 => ?_)
          refine q_goto ?_
          refine xR.blk c133_53 ?_
          exact q_zret (i32_01 (by omega)) (hZ _ _ ⟨(MX.putf (k := 0) (v := sjn1_0) M (fun lo hi hm => by simp only [mfl, List.mem_cons, Prod.mk.injEq, List.not_mem_nil, or_false] at hm; omega)), ⟨_, rfl, by omega⟩⟩)
        · skip
          refine v_iconst (k := 1) rfl (fun v26 e27 => ?_)
          refine q_goto ?_
          refine xR.blk c133_53 ?_
          exact q_zret (i32_01 (by omega)) (hZ _ _ ⟨(MX.putf (k := 0) (v := sjn1_0) M (fun lo hi hm => by simp only [mfl, List.mem_cons, Prod.mk.injEq, List.not_mem_nil, or_false] at hm; omega)), ⟨_, rfl, by omega⟩⟩)
    · skip
      refine v_iconst (k := 0) rfl (fun v28 e29 => ?_)
      exact q_zret (i32_01 (by omega)) (hZ _ _ ⟨(MX.putf (k := 0) (v := sjn1_0) M (fun lo hi hm => by simp only [mfl, List.mem_cons, Prod.mk.injEq, List.not_mem_nil, or_false] at hm; omega)), ⟨_, rfl, by omega⟩⟩)
  refine xR.blk c133_0 ?_
  refine q_aload rfl (by decide) ?_
  refine q_iload rfl ?_
  refine q_iload rfl ?_
  refine q_call (Nat.le_of_ble_eq_true rfl) (Nat.le_of_ble_eq_true rfl) (by show x_ce h + 0 ≤ 0; rw [S.2.2.1]; exact Nat.le_refl 0) (by show x_so h + 0 ≤ 0; rw [S.2.2.2]; exact Nat.le_refl 0) ?_
  refine xC.up (tv93 (h := x_setc h 0 0) (F := F) (x0 := x1) (x1 := x2) S.set  (fun o30 F31 hp => ?_)) (by omega)
  obtain ⟨hF34, ⟨v33, rfl, q32⟩⟩ := hp
  rw [hF34]
  show x_seq _ _ _ _ ([.inr (.inr (8, 1)), .inl x1, .inl x2, .inr (.inr (0, 0))], [.inl v33, .inr (.inr (8, 1))], mh h F)
  refine v_if_eq (fun d35 => ?_) (fun d35 => ?_)
  · skip
    refine xR.blk c133_13 ?_
    refine v_iconst (k := 1) rfl (fun v36 e37 => ?_)
    refine q_goto ?_
    exact (jn1 v36 (by omega) (by omega)).up (by omega)
  · skip
    refine v_iconst (k := 0) rfl (fun v38 e39 => ?_)
    refine q_goto ?_
    exact (jn1 v38 (by omega) (by omega)).up (by omega)
theorem tv134 {h : xH} {Z : xO → xH → Prop} {F : xF} {x1 : Int32} {x2 : Int32} (S : MS h) (M : MX 72 F) (hZ : ∀ (o : xO) (F' : xF), (MX 72 F') ∧ (∃ v : Int32, o = .inl (some (.inl v))) → Z o (mh h F')) : xC 100 134 [.inr (.inr (8, 1)), .inl x1, .inl x2] (mh h F) Z := by
  refine ⟨rfl, S.2.2.1, S.2.2.2, ?_⟩
  show xR _ 134 0 ([.inr (.inr (8, 1)), .inl x1, .inl x2, .inr (.inr (0, 0)), .inr (.inr (0, 0)), .inr (.inr (0, 0))], [], mh h F) Z
  have jn1 : ∀ (sjn1_0 : Int32), (0 ≤ sjn1_0.toInt ∧ sjn1_0.toInt ≤ 1) → (sjn1_0.toInt = 0 → 0 ≤ x1.toInt ∧ x1.toInt ≤ 2 ∧ 0 ≤ x2.toInt ∧ x2.toInt ≤ 23) → xR (90) 134 14 ([.inr (.inr (8, 1)), .inl x1, .inl x2, .inr (.inr (0, 0)), .inr (.inr (0, 0)), .inr (.inr (0, 0))], [.inl sjn1_0, .inr (.inr (8, 1))], mh h F) Z := by
    intro sjn1_0 kjn1_0 kjn1_1
    refine xR.blk c134_14 ?_
    refine q_callv (j := 1) rfl (by decide) ⟨Nat.le_refl 1, Nat.le_of_eq S.1.symm⟩ (Nat.le_of_ble_eq_true rfl) (Nat.le_of_ble_eq_true rfl) (by show x_ce h + 0 ≤ 0; rw [S.2.2.1]; exact Nat.le_refl 0) (by show x_so h + 0 ≤ 0; rw [S.2.2.2]; exact Nat.le_refl 0) ?_
    refine xC.up (tv91 (h := x_setc h 0 0) (F := F) (x1 := sjn1_0) S.set  (fun o4 F5 hp => ?_)) (by omega)
    obtain ⟨q8, ⟨v7, rfl, q6⟩⟩ := hp
    subst q8
    show x_seq _ _ _ _ ([.inr (.inr (8, 1)), .inl x1, .inl x2, .inr (.inr (0, 0)), .inr (.inr (0, 0)), .inr (.inr (0, 0))], [.inl v7], mh h (x_u2 F 8 0 sjn1_0))
    refine v_if_eq (fun d9 => ?_) (fun d9 => ?_)
    · skip
      refine xR.blk c134_22 ?_
      refine v_iconst (k := 24) rfl (fun v10 e11 => ?_)
      refine q_iload rfl ?_
      refine v_imul' e11 (by omega) (fun v12 e13 => ?_)
      refine q_iload rfl ?_
      refine v_iadd (by omega) (fun v14 e15 => ?_)
      refine q_istore (Nat.le_of_ble_eq_true rfl) ?_
      show x_seq _ _ _ _ ([.inr (.inr (8, 1)), .inl x1, .inl x2, .inl v14, .inr (.inr (0, 0)), .inr (.inr (0, 0))], [], mh h (x_u2 F 8 0 sjn1_0))
      refine q_aload rfl (by decide) ?_
      refine m_gfr S (n := 72) (by decide) ?_
      refine q_iload rfl ?_
      refine m_ald (k := 9) (n := 72) S (by decide) (by omega) (by omega) ?_
      have e16 : -1 ≤ (F 28 v14.toNatClampNeg).toInt ∧ (F 28 v14.toNatClampNeg).toInt ≤ 71 := M.rg (lo := -1) (hi := 71) (by decide) _
      show x_seq _ _ _ _ ([.inr (.inr (8, 1)), .inl x1, .inl x2, .inl v14, .inr (.inr (0, 0)), .inr (.inr (0, 0))], [.inl (F 28 v14.toNatClampNeg)], mh h (x_u2 F 8 0 sjn1_0))
      refine v_if_lt (fun d17 => ?_) (fun d17 => ?_)
      · skip
        refine xR.blk c134_47 ?_
        refine q_iload rfl ?_
        refine q_goto ?_
        refine xR.blk c134_48 ?_
        refine q_istore (Nat.le_of_ble_eq_true rfl) ?_
        show x_seq _ _ _ _ ([.inr (.inr (8, 1)), .inl x1, .inl x2, .inl v14, .inl v14, .inr (.inr (0, 0))], [], mh h (x_u2 F 8 0 sjn1_0))
        have cc := x_clamp (n := v14) (by omega)
        have sl : SL F v14.toNatClampNeg := M.2.2.2.1 _ (by omega) (by omega)
        unfold SL at sl
        refine q_aload rfl (by decide) ?_
        refine m_gfr S (n := 72) (by decide) ?_
        refine q_iload rfl ?_
        refine m_ald (k := 29) (n := 72) S (by decide) (by omega) (by omega) ?_
        have e18 : 0 ≤ (F 47 v14.toNatClampNeg).toInt ∧ (F 47 v14.toNatClampNeg).toInt ≤ 5 := M.rg (lo := 0) (hi := 5) (by decide) _
        show x_seq _ _ _ _ ([.inr (.inr (8, 1)), .inl x1, .inl x2, .inl v14, .inl v14, .inr (.inr (0, 0))], [.inl (F 47 v14.toNatClampNeg)], mh h (x_u2 F 8 0 sjn1_0))
        refine v_iconst (k := 5) rfl (fun v19 e20 => ?_)
        refine v_icmp_ne (fun d21 => ?_) (fun d21 => ?_)
        · skip
          refine xR.blk c134_90 ?_
          refine v_iconst (k := 0) rfl (fun v22 e23 => ?_)
          refine q_goto ?_
          refine xR.blk c134_91 ?_
          refine q_istore (Nat.le_of_ble_eq_true rfl) ?_
          show x_seq _ _ _ _ ([.inr (.inr (8, 1)), .inl x1, .inl x2, .inl v14, .inl v14, .inl v22], [], mh h (x_u2 F 8 0 sjn1_0))
          refine q_iload rfl ?_
          refine v_if_ne (fun d24 => ?_) (fun d24 => ?_)
          · skip
            refine xR.blk c134_102 ?_
            refine q_iload rfl ?_
            refine q_iload rfl ?_
            refine v_icmp_ne (fun d25 => ?_) (fun d25 => ?_)
            · skip
              refine xR.blk c134_118 ?_
              refine q_iload rfl ?_
              refine q_goto ?_
              refine xR.blk c134_120 ?_
              exact q_iret (hZ _ _ ⟨(MX.putf (k := 0) (v := sjn1_0) M (fun lo hi hm => by simp only [mfl, List.mem_cons, Prod.mk.injEq, List.not_mem_nil, or_false] at hm; omega)), ⟨_, rfl⟩⟩)
            · skip
              refine q_aload rfl (by decide) ?_
              refine m_gfr S (n := 72) (by decide) ?_
              refine q_iload rfl ?_
              refine m_ald (k := 39) (n := 72) S (by decide) (by omega) (by omega) ?_
              have e26 : -1 ≤ (F 57 v14.toNatClampNeg).toInt ∧ (F 57 v14.toNatClampNeg).toInt ≤ 71 := M.rg (lo := -1) (hi := 71) (by decide) _
              show x_seq _ _ _ _ ([.inr (.inr (8, 1)), .inl x1, .inl x2, .inl v14, .inl v14, .inl v22], [.inl (F 57 v14.toNatClampNeg)], mh h (x_u2 F 8 0 sjn1_0))
              refine q_goto ?_
              refine xR.blk c134_120 ?_
              exact q_iret (hZ _ _ ⟨(MX.putf (k := 0) (v := sjn1_0) M (fun lo hi hm => by simp only [mfl, List.mem_cons, Prod.mk.injEq, List.not_mem_nil, or_false] at hm; omega)), ⟨_, rfl⟩⟩)
          · skip
            refine v_iconst (k := -1) rfl (fun v27 e28 => ?_)
            refine q_goto ?_
            refine xR.blk c134_120 ?_
            exact q_iret (hZ _ _ ⟨(MX.putf (k := 0) (v := sjn1_0) M (fun lo hi hm => by simp only [mfl, List.mem_cons, Prod.mk.injEq, List.not_mem_nil, or_false] at hm; omega)), ⟨_, rfl⟩⟩)
        · skip
          refine q_aload rfl (by decide) ?_
          refine m_gfr S (n := 72) (by decide) ?_
          refine q_iload rfl ?_
          refine m_ald (k := 3) (n := 72) S (by decide) (by omega) (by omega) ?_
          show x_seq _ _ _ _ ([.inr (.inr (8, 1)), .inl x1, .inl x2, .inl v14, .inl v14, .inr (.inr (0, 0))], [.inl (F 22 v14.toNatClampNeg)], mh h (x_u2 F 8 0 sjn1_0))
          refine v_if_eq (fun d29 => ?_) (fun d29 => ?_)
          · skip
            refine xR.blk c134_90 ?_
            refine v_iconst (k := 0) rfl (fun v30 e31 => ?_)
            refine q_goto ?_
            refine xR.blk c134_91 ?_
            refine q_istore (Nat.le_of_ble_eq_true rfl) ?_
            show x_seq _ _ _ _ ([.inr (.inr (8, 1)), .inl x1, .inl x2, .inl v14, .inl v14, .inl v30], [], mh h (x_u2 F 8 0 sjn1_0))
            refine q_iload rfl ?_
            refine v_if_ne (fun d32 => ?_) (fun d32 => ?_)
            · skip
              refine xR.blk c134_102 ?_
              refine q_iload rfl ?_
              refine q_iload rfl ?_
              refine v_icmp_ne (fun d33 => ?_) (fun d33 => ?_)
              · skip
                refine xR.blk c134_118 ?_
                refine q_iload rfl ?_
                refine q_goto ?_
                refine xR.blk c134_120 ?_
                exact q_iret (hZ _ _ ⟨(MX.putf (k := 0) (v := sjn1_0) M (fun lo hi hm => by simp only [mfl, List.mem_cons, Prod.mk.injEq, List.not_mem_nil, or_false] at hm; omega)), ⟨_, rfl⟩⟩)
              · skip
                refine q_aload rfl (by decide) ?_
                refine m_gfr S (n := 72) (by decide) ?_
                refine q_iload rfl ?_
                refine m_ald (k := 39) (n := 72) S (by decide) (by omega) (by omega) ?_
                have e34 : -1 ≤ (F 57 v14.toNatClampNeg).toInt ∧ (F 57 v14.toNatClampNeg).toInt ≤ 71 := M.rg (lo := -1) (hi := 71) (by decide) _
                show x_seq _ _ _ _ ([.inr (.inr (8, 1)), .inl x1, .inl x2, .inl v14, .inl v14, .inl v30], [.inl (F 57 v14.toNatClampNeg)], mh h (x_u2 F 8 0 sjn1_0))
                refine q_goto ?_
                refine xR.blk c134_120 ?_
                exact q_iret (hZ _ _ ⟨(MX.putf (k := 0) (v := sjn1_0) M (fun lo hi hm => by simp only [mfl, List.mem_cons, Prod.mk.injEq, List.not_mem_nil, or_false] at hm; omega)), ⟨_, rfl⟩⟩)
            · skip
              refine v_iconst (k := -1) rfl (fun v35 e36 => ?_)
              refine q_goto ?_
              refine xR.blk c134_120 ?_
              exact q_iret (hZ _ _ ⟨(MX.putf (k := 0) (v := sjn1_0) M (fun lo hi hm => by simp only [mfl, List.mem_cons, Prod.mk.injEq, List.not_mem_nil, or_false] at hm; omega)), ⟨_, rfl⟩⟩)
          · skip
            refine q_aload rfl (by decide) ?_
            refine m_gfr S (n := 72) (by decide) ?_
            refine q_aload rfl (by decide) ?_
            refine m_gfr S (n := 72) (by decide) ?_
            refine q_iload rfl ?_
            refine m_ald (k := 39) (n := 72) S (by decide) (by omega) (by omega) ?_
            have e37 : -1 ≤ (F 57 v14.toNatClampNeg).toInt ∧ (F 57 v14.toNatClampNeg).toInt ≤ 71 := M.rg (lo := -1) (hi := 71) (by decide) _
            show x_seq _ _ _ _ ([.inr (.inr (8, 1)), .inl x1, .inl x2, .inl v14, .inl v14, .inr (.inr (0, 0))], [.inl (F 57 v14.toNatClampNeg), .inr (.inr (22, 1))], mh h (x_u2 F 8 0 sjn1_0))
            refine m_ald (k := 3) (n := 72) S (by decide) (by omega) (by omega) ?_
            show x_seq _ _ _ _ ([.inr (.inr (8, 1)), .inl x1, .inl x2, .inl v14, .inl v14, .inr (.inr (0, 0))], [.inl (F 22 (F 57 v14.toNatClampNeg).toNatClampNeg)], mh h (x_u2 F 8 0 sjn1_0))
            refine v_if_eq (fun d38 => ?_) (fun d38 => ?_)
            · skip
              refine xR.blk c134_90 ?_
              refine v_iconst (k := 0) rfl (fun v39 e40 => ?_)
              refine q_goto ?_
              refine xR.blk c134_91 ?_
              refine q_istore (Nat.le_of_ble_eq_true rfl) ?_
              show x_seq _ _ _ _ ([.inr (.inr (8, 1)), .inl x1, .inl x2, .inl v14, .inl v14, .inl v39], [], mh h (x_u2 F 8 0 sjn1_0))
              refine q_iload rfl ?_
              refine v_if_ne (fun d41 => ?_) (fun d41 => ?_)
              · skip
                refine xR.blk c134_102 ?_
                refine q_iload rfl ?_
                refine q_iload rfl ?_
                refine v_icmp_ne (fun d42 => ?_) (fun d42 => ?_)
                · skip
                  refine xR.blk c134_118 ?_
                  refine q_iload rfl ?_
                  refine q_goto ?_
                  refine xR.blk c134_120 ?_
                  exact q_iret (hZ _ _ ⟨(MX.putf (k := 0) (v := sjn1_0) M (fun lo hi hm => by simp only [mfl, List.mem_cons, Prod.mk.injEq, List.not_mem_nil, or_false] at hm; omega)), ⟨_, rfl⟩⟩)
                · skip
                  refine q_aload rfl (by decide) ?_
                  refine m_gfr S (n := 72) (by decide) ?_
                  refine q_iload rfl ?_
                  refine m_ald (k := 39) (n := 72) S (by decide) (by omega) (by omega) ?_
                  have e43 : -1 ≤ (F 57 v14.toNatClampNeg).toInt ∧ (F 57 v14.toNatClampNeg).toInt ≤ 71 := M.rg (lo := -1) (hi := 71) (by decide) _
                  show x_seq _ _ _ _ ([.inr (.inr (8, 1)), .inl x1, .inl x2, .inl v14, .inl v14, .inl v39], [.inl (F 57 v14.toNatClampNeg)], mh h (x_u2 F 8 0 sjn1_0))
                  refine q_goto ?_
                  refine xR.blk c134_120 ?_
                  exact q_iret (hZ _ _ ⟨(MX.putf (k := 0) (v := sjn1_0) M (fun lo hi hm => by simp only [mfl, List.mem_cons, Prod.mk.injEq, List.not_mem_nil, or_false] at hm; omega)), ⟨_, rfl⟩⟩)
              · skip
                refine v_iconst (k := -1) rfl (fun v44 e45 => ?_)
                refine q_goto ?_
                refine xR.blk c134_120 ?_
                exact q_iret (hZ _ _ ⟨(MX.putf (k := 0) (v := sjn1_0) M (fun lo hi hm => by simp only [mfl, List.mem_cons, Prod.mk.injEq, List.not_mem_nil, or_false] at hm; omega)), ⟨_, rfl⟩⟩)
            · skip
              refine v_iconst (k := 1) rfl (fun v46 e47 => ?_)
              refine q_goto ?_
              refine xR.blk c134_91 ?_
              refine q_istore (Nat.le_of_ble_eq_true rfl) ?_
              show x_seq _ _ _ _ ([.inr (.inr (8, 1)), .inl x1, .inl x2, .inl v14, .inl v14, .inl v46], [], mh h (x_u2 F 8 0 sjn1_0))
              refine q_iload rfl ?_
              refine v_if_ne (fun d48 => ?_) (fun d48 => ?_)
              · skip
                refine xR.blk c134_102 ?_
                refine q_iload rfl ?_
                refine q_iload rfl ?_
                refine v_icmp_ne (fun d49 => ?_) (fun d49 => ?_)
                · skip
                  refine xR.blk c134_118 ?_
                  refine q_iload rfl ?_
                  refine q_goto ?_
                  refine xR.blk c134_120 ?_
                  exact q_iret (hZ _ _ ⟨(MX.putf (k := 0) (v := sjn1_0) M (fun lo hi hm => by simp only [mfl, List.mem_cons, Prod.mk.injEq, List.not_mem_nil, or_false] at hm; omega)), ⟨_, rfl⟩⟩)
                · skip
                  refine q_aload rfl (by decide) ?_
                  refine m_gfr S (n := 72) (by decide) ?_
                  refine q_iload rfl ?_
                  refine m_ald (k := 39) (n := 72) S (by decide) (by omega) (by omega) ?_
                  have e50 : -1 ≤ (F 57 v14.toNatClampNeg).toInt ∧ (F 57 v14.toNatClampNeg).toInt ≤ 71 := M.rg (lo := -1) (hi := 71) (by decide) _
                  show x_seq _ _ _ _ ([.inr (.inr (8, 1)), .inl x1, .inl x2, .inl v14, .inl v14, .inl v46], [.inl (F 57 v14.toNatClampNeg)], mh h (x_u2 F 8 0 sjn1_0))
                  refine q_goto ?_
                  refine xR.blk c134_120 ?_
                  exact q_iret (hZ _ _ ⟨(MX.putf (k := 0) (v := sjn1_0) M (fun lo hi hm => by simp only [mfl, List.mem_cons, Prod.mk.injEq, List.not_mem_nil, or_false] at hm; omega)), ⟨_, rfl⟩⟩)
              · skip
                refine v_iconst (k := -1) rfl (fun v51 e52 => ?_)
                refine q_goto ?_
                refine xR.blk c134_120 ?_
                exact q_iret (hZ _ _ ⟨(MX.putf (k := 0) (v := sjn1_0) M (fun lo hi hm => by simp only [mfl, List.mem_cons, Prod.mk.injEq, List.not_mem_nil, or_false] at hm; omega)), ⟨_, rfl⟩⟩)
      · skip
        refine q_aload rfl (by decide) ?_
        refine m_gfr S (n := 72) (by decide) ?_
        refine q_iload rfl ?_
        refine m_ald (k := 9) (n := 72) S (by decide) (by omega) (by omega) ?_
        have e53 : -1 ≤ (F 28 v14.toNatClampNeg).toInt ∧ (F 28 v14.toNatClampNeg).toInt ≤ 71 := M.rg (lo := -1) (hi := 71) (by decide) _
        show x_seq _ _ _ _ ([.inr (.inr (8, 1)), .inl x1, .inl x2, .inl v14, .inr (.inr (0, 0)), .inr (.inr (0, 0))], [.inl (F 28 v14.toNatClampNeg)], mh h (x_u2 F 8 0 sjn1_0))
        refine q_goto ?_
        refine xR.blk c134_48 ?_
        refine q_istore (Nat.le_of_ble_eq_true rfl) ?_
        show x_seq _ _ _ _ ([.inr (.inr (8, 1)), .inl x1, .inl x2, .inl v14, .inl (F 28 v14.toNatClampNeg), .inr (.inr (0, 0))], [], mh h (x_u2 F 8 0 sjn1_0))
        have cc := x_clamp (n := (F 28 v14.toNatClampNeg)) (by omega)
        have sl : SL F (F 28 v14.toNatClampNeg).toNatClampNeg := M.2.2.2.1 _ (by omega) (by omega)
        unfold SL at sl
        refine q_aload rfl (by decide) ?_
        refine m_gfr S (n := 72) (by decide) ?_
        refine q_iload rfl ?_
        refine m_ald (k := 29) (n := 72) S (by decide) (by omega) (by omega) ?_
        have e54 : 0 ≤ (F 47 (F 28 v14.toNatClampNeg).toNatClampNeg).toInt ∧ (F 47 (F 28 v14.toNatClampNeg).toNatClampNeg).toInt ≤ 5 := M.rg (lo := 0) (hi := 5) (by decide) _
        show x_seq _ _ _ _ ([.inr (.inr (8, 1)), .inl x1, .inl x2, .inl v14, .inl (F 28 v14.toNatClampNeg), .inr (.inr (0, 0))], [.inl (F 47 (F 28 v14.toNatClampNeg).toNatClampNeg)], mh h (x_u2 F 8 0 sjn1_0))
        refine v_iconst (k := 5) rfl (fun v55 e56 => ?_)
        refine v_icmp_ne (fun d57 => ?_) (fun d57 => ?_)
        · skip
          refine xR.blk c134_90 ?_
          refine v_iconst (k := 0) rfl (fun v58 e59 => ?_)
          refine q_goto ?_
          refine xR.blk c134_91 ?_
          refine q_istore (Nat.le_of_ble_eq_true rfl) ?_
          show x_seq _ _ _ _ ([.inr (.inr (8, 1)), .inl x1, .inl x2, .inl v14, .inl (F 28 v14.toNatClampNeg), .inl v58], [], mh h (x_u2 F 8 0 sjn1_0))
          refine q_iload rfl ?_
          refine v_if_ne (fun d60 => ?_) (fun d60 => ?_)
          · skip
            refine xR.blk c134_102 ?_
            refine q_iload rfl ?_
            refine q_iload rfl ?_
            refine v_icmp_ne (fun d61 => ?_) (fun d61 => ?_)
            · skip
              refine xR.blk c134_118 ?_
              refine q_iload rfl ?_
              refine q_goto ?_
              refine xR.blk c134_120 ?_
              exact q_iret (hZ _ _ ⟨(MX.putf (k := 0) (v := sjn1_0) M (fun lo hi hm => by simp only [mfl, List.mem_cons, Prod.mk.injEq, List.not_mem_nil, or_false] at hm; omega)), ⟨_, rfl⟩⟩)
            · skip
              refine q_aload rfl (by decide) ?_
              refine m_gfr S (n := 72) (by decide) ?_
              refine q_iload rfl ?_
              refine m_ald (k := 39) (n := 72) S (by decide) (by omega) (by omega) ?_
              have e62 : -1 ≤ (F 57 (F 28 v14.toNatClampNeg).toNatClampNeg).toInt ∧ (F 57 (F 28 v14.toNatClampNeg).toNatClampNeg).toInt ≤ 71 := M.rg (lo := -1) (hi := 71) (by decide) _
              show x_seq _ _ _ _ ([.inr (.inr (8, 1)), .inl x1, .inl x2, .inl v14, .inl (F 28 v14.toNatClampNeg), .inl v58], [.inl (F 57 (F 28 v14.toNatClampNeg).toNatClampNeg)], mh h (x_u2 F 8 0 sjn1_0))
              refine q_goto ?_
              refine xR.blk c134_120 ?_
              exact q_iret (hZ _ _ ⟨(MX.putf (k := 0) (v := sjn1_0) M (fun lo hi hm => by simp only [mfl, List.mem_cons, Prod.mk.injEq, List.not_mem_nil, or_false] at hm; omega)), ⟨_, rfl⟩⟩)
          · skip
            refine v_iconst (k := -1) rfl (fun v63 e64 => ?_)
            refine q_goto ?_
            refine xR.blk c134_120 ?_
            exact q_iret (hZ _ _ ⟨(MX.putf (k := 0) (v := sjn1_0) M (fun lo hi hm => by simp only [mfl, List.mem_cons, Prod.mk.injEq, List.not_mem_nil, or_false] at hm; omega)), ⟨_, rfl⟩⟩)
        · skip
          refine q_aload rfl (by decide) ?_
          refine m_gfr S (n := 72) (by decide) ?_
          refine q_iload rfl ?_
          refine m_ald (k := 3) (n := 72) S (by decide) (by omega) (by omega) ?_
          show x_seq _ _ _ _ ([.inr (.inr (8, 1)), .inl x1, .inl x2, .inl v14, .inl (F 28 v14.toNatClampNeg), .inr (.inr (0, 0))], [.inl (F 22 (F 28 v14.toNatClampNeg).toNatClampNeg)], mh h (x_u2 F 8 0 sjn1_0))
          refine v_if_eq (fun d65 => ?_) (fun d65 => ?_)
          · skip
            refine xR.blk c134_90 ?_
            refine v_iconst (k := 0) rfl (fun v66 e67 => ?_)
            refine q_goto ?_
            refine xR.blk c134_91 ?_
            refine q_istore (Nat.le_of_ble_eq_true rfl) ?_
            show x_seq _ _ _ _ ([.inr (.inr (8, 1)), .inl x1, .inl x2, .inl v14, .inl (F 28 v14.toNatClampNeg), .inl v66], [], mh h (x_u2 F 8 0 sjn1_0))
            refine q_iload rfl ?_
            refine v_if_ne (fun d68 => ?_) (fun d68 => ?_)
            · skip
              refine xR.blk c134_102 ?_
              refine q_iload rfl ?_
              refine q_iload rfl ?_
              refine v_icmp_ne (fun d69 => ?_) (fun d69 => ?_)
              · skip
                refine xR.blk c134_118 ?_
                refine q_iload rfl ?_
                refine q_goto ?_
                refine xR.blk c134_120 ?_
                exact q_iret (hZ _ _ ⟨(MX.putf (k := 0) (v := sjn1_0) M (fun lo hi hm => by simp only [mfl, List.mem_cons, Prod.mk.injEq, List.not_mem_nil, or_false] at hm; omega)), ⟨_, rfl⟩⟩)
              · skip
                refine q_aload rfl (by decide) ?_
                refine m_gfr S (n := 72) (by decide) ?_
                refine q_iload rfl ?_
                refine m_ald (k := 39) (n := 72) S (by decide) (by omega) (by omega) ?_
                have e70 : -1 ≤ (F 57 (F 28 v14.toNatClampNeg).toNatClampNeg).toInt ∧ (F 57 (F 28 v14.toNatClampNeg).toNatClampNeg).toInt ≤ 71 := M.rg (lo := -1) (hi := 71) (by decide) _
                show x_seq _ _ _ _ ([.inr (.inr (8, 1)), .inl x1, .inl x2, .inl v14, .inl (F 28 v14.toNatClampNeg), .inl v66], [.inl (F 57 (F 28 v14.toNatClampNeg).toNatClampNeg)], mh h (x_u2 F 8 0 sjn1_0))
                refine q_goto ?_
                refine xR.blk c134_120 ?_
                exact q_iret (hZ _ _ ⟨(MX.putf (k := 0) (v := sjn1_0) M (fun lo hi hm => by simp only [mfl, List.mem_cons, Prod.mk.injEq, List.not_mem_nil, or_false] at hm; omega)), ⟨_, rfl⟩⟩)
            · skip
              refine v_iconst (k := -1) rfl (fun v71 e72 => ?_)
              refine q_goto ?_
              refine xR.blk c134_120 ?_
              exact q_iret (hZ _ _ ⟨(MX.putf (k := 0) (v := sjn1_0) M (fun lo hi hm => by simp only [mfl, List.mem_cons, Prod.mk.injEq, List.not_mem_nil, or_false] at hm; omega)), ⟨_, rfl⟩⟩)
          · skip
            refine q_aload rfl (by decide) ?_
            refine m_gfr S (n := 72) (by decide) ?_
            refine q_aload rfl (by decide) ?_
            refine m_gfr S (n := 72) (by decide) ?_
            refine q_iload rfl ?_
            refine m_ald (k := 39) (n := 72) S (by decide) (by omega) (by omega) ?_
            have e73 : -1 ≤ (F 57 (F 28 v14.toNatClampNeg).toNatClampNeg).toInt ∧ (F 57 (F 28 v14.toNatClampNeg).toNatClampNeg).toInt ≤ 71 := M.rg (lo := -1) (hi := 71) (by decide) _
            show x_seq _ _ _ _ ([.inr (.inr (8, 1)), .inl x1, .inl x2, .inl v14, .inl (F 28 v14.toNatClampNeg), .inr (.inr (0, 0))], [.inl (F 57 (F 28 v14.toNatClampNeg).toNatClampNeg), .inr (.inr (22, 1))], mh h (x_u2 F 8 0 sjn1_0))
            refine m_ald (k := 3) (n := 72) S (by decide) (by omega) (by omega) ?_
            show x_seq _ _ _ _ ([.inr (.inr (8, 1)), .inl x1, .inl x2, .inl v14, .inl (F 28 v14.toNatClampNeg), .inr (.inr (0, 0))], [.inl (F 22 (F 57 (F 28 v14.toNatClampNeg).toNatClampNeg).toNatClampNeg)], mh h (x_u2 F 8 0 sjn1_0))
            refine v_if_eq (fun d74 => ?_) (fun d74 => ?_)
            · skip
              refine xR.blk c134_90 ?_
              refine v_iconst (k := 0) rfl (fun v75 e76 => ?_)
              refine q_goto ?_
              refine xR.blk c134_91 ?_
              refine q_istore (Nat.le_of_ble_eq_true rfl) ?_
              show x_seq _ _ _ _ ([.inr (.inr (8, 1)), .inl x1, .inl x2, .inl v14, .inl (F 28 v14.toNatClampNeg), .inl v75], [], mh h (x_u2 F 8 0 sjn1_0))
              refine q_iload rfl ?_
              refine v_if_ne (fun d77 => ?_) (fun d77 => ?_)
              · skip
                refine xR.blk c134_102 ?_
                refine q_iload rfl ?_
                refine q_iload rfl ?_
                refine v_icmp_ne (fun d78 => ?_) (fun d78 => ?_)
                · skip
                  refine xR.blk c134_118 ?_
                  refine q_iload rfl ?_
                  refine q_goto ?_
                  refine xR.blk c134_120 ?_
                  exact q_iret (hZ _ _ ⟨(MX.putf (k := 0) (v := sjn1_0) M (fun lo hi hm => by simp only [mfl, List.mem_cons, Prod.mk.injEq, List.not_mem_nil, or_false] at hm; omega)), ⟨_, rfl⟩⟩)
                · skip
                  refine q_aload rfl (by decide) ?_
                  refine m_gfr S (n := 72) (by decide) ?_
                  refine q_iload rfl ?_
                  refine m_ald (k := 39) (n := 72) S (by decide) (by omega) (by omega) ?_
                  have e79 : -1 ≤ (F 57 (F 28 v14.toNatClampNeg).toNatClampNeg).toInt ∧ (F 57 (F 28 v14.toNatClampNeg).toNatClampNeg).toInt ≤ 71 := M.rg (lo := -1) (hi := 71) (by decide) _
                  show x_seq _ _ _ _ ([.inr (.inr (8, 1)), .inl x1, .inl x2, .inl v14, .inl (F 28 v14.toNatClampNeg), .inl v75], [.inl (F 57 (F 28 v14.toNatClampNeg).toNatClampNeg)], mh h (x_u2 F 8 0 sjn1_0))
                  refine q_goto ?_
                  refine xR.blk c134_120 ?_
                  exact q_iret (hZ _ _ ⟨(MX.putf (k := 0) (v := sjn1_0) M (fun lo hi hm => by simp only [mfl, List.mem_cons, Prod.mk.injEq, List.not_mem_nil, or_false] at hm; omega)), ⟨_, rfl⟩⟩)
              · skip
                refine v_iconst (k := -1) rfl (fun v80 e81 => ?_)
                refine q_goto ?_
                refine xR.blk c134_120 ?_
                exact q_iret (hZ _ _ ⟨(MX.putf (k := 0) (v := sjn1_0) M (fun lo hi hm => by simp only [mfl, List.mem_cons, Prod.mk.injEq, List.not_mem_nil, or_false] at hm; omega)), ⟨_, rfl⟩⟩)
            · skip
              refine v_iconst (k := 1) rfl (fun v82 e83 => ?_)
              refine q_goto ?_
              refine xR.blk c134_91 ?_
              refine q_istore (Nat.le_of_ble_eq_true rfl) ?_
              show x_seq _ _ _ _ ([.inr (.inr (8, 1)), .inl x1, .inl x2, .inl v14, .inl (F 28 v14.toNatClampNeg), .inl v82], [], mh h (x_u2 F 8 0 sjn1_0))
              refine q_iload rfl ?_
              refine v_if_ne (fun d84 => ?_) (fun d84 => ?_)
              · skip
                refine xR.blk c134_102 ?_
                refine q_iload rfl ?_
                refine q_iload rfl ?_
                refine v_icmp_ne (fun d85 => ?_) (fun d85 => ?_)
                · skip
                  refine xR.blk c134_118 ?_
                  refine q_iload rfl ?_
                  refine q_goto ?_
                  refine xR.blk c134_120 ?_
                  exact q_iret (hZ _ _ ⟨(MX.putf (k := 0) (v := sjn1_0) M (fun lo hi hm => by simp only [mfl, List.mem_cons, Prod.mk.injEq, List.not_mem_nil, or_false] at hm; omega)), ⟨_, rfl⟩⟩)
                · skip
                  refine q_aload rfl (by decide) ?_
                  refine m_gfr S (n := 72) (by decide) ?_
                  refine q_iload rfl ?_
                  refine m_ald (k := 39) (n := 72) S (by decide) (by omega) (by omega) ?_
                  have e86 : -1 ≤ (F 57 (F 28 v14.toNatClampNeg).toNatClampNeg).toInt ∧ (F 57 (F 28 v14.toNatClampNeg).toNatClampNeg).toInt ≤ 71 := M.rg (lo := -1) (hi := 71) (by decide) _
                  show x_seq _ _ _ _ ([.inr (.inr (8, 1)), .inl x1, .inl x2, .inl v14, .inl (F 28 v14.toNatClampNeg), .inl v82], [.inl (F 57 (F 28 v14.toNatClampNeg).toNatClampNeg)], mh h (x_u2 F 8 0 sjn1_0))
                  refine q_goto ?_
                  refine xR.blk c134_120 ?_
                  exact q_iret (hZ _ _ ⟨(MX.putf (k := 0) (v := sjn1_0) M (fun lo hi hm => by simp only [mfl, List.mem_cons, Prod.mk.injEq, List.not_mem_nil, or_false] at hm; omega)), ⟨_, rfl⟩⟩)
              · skip
                refine v_iconst (k := -1) rfl (fun v87 e88 => ?_)
                refine q_goto ?_
                refine xR.blk c134_120 ?_
                exact q_iret (hZ _ _ ⟨(MX.putf (k := 0) (v := sjn1_0) M (fun lo hi hm => by simp only [mfl, List.mem_cons, Prod.mk.injEq, List.not_mem_nil, or_false] at hm; omega)), ⟨_, rfl⟩⟩)
    · skip
      refine v_iconst (k := 0) rfl (fun v89 e90 => ?_)
      exact q_iret (hZ _ _ ⟨(MX.putf (k := 0) (v := sjn1_0) M (fun lo hi hm => by simp only [mfl, List.mem_cons, Prod.mk.injEq, List.not_mem_nil, or_false] at hm; omega)), ⟨_, rfl⟩⟩)
  refine xR.blk c134_0 ?_
  refine q_aload rfl (by decide) ?_
  refine q_iload rfl ?_
  refine q_iload rfl ?_
  refine q_call (Nat.le_of_ble_eq_true rfl) (Nat.le_of_ble_eq_true rfl) (by show x_ce h + 0 ≤ 0; rw [S.2.2.1]; exact Nat.le_refl 0) (by show x_so h + 0 ≤ 0; rw [S.2.2.2]; exact Nat.le_refl 0) ?_
  refine xC.up (tv93 (h := x_setc h 0 0) (F := F) (x0 := x1) (x1 := x2) S.set  (fun o91 F92 hp => ?_)) (by omega)
  obtain ⟨hF95, ⟨v94, rfl, q93⟩⟩ := hp
  rw [hF95]
  show x_seq _ _ _ _ ([.inr (.inr (8, 1)), .inl x1, .inl x2, .inr (.inr (0, 0)), .inr (.inr (0, 0)), .inr (.inr (0, 0))], [.inl v94, .inr (.inr (8, 1))], mh h F)
  refine v_if_eq (fun d96 => ?_) (fun d96 => ?_)
  · skip
    refine xR.blk c134_13 ?_
    refine v_iconst (k := 1) rfl (fun v97 e98 => ?_)
    refine q_goto ?_
    exact (jn1 v97 (by omega) (by omega)).up (by omega)
  · skip
    refine v_iconst (k := 0) rfl (fun v99 e100 => ?_)
    refine q_goto ?_
    exact (jn1 v99 (by omega) (by omega)).up (by omega)
theorem tv135 {h : xH} {Z : xO → xH → Prop} {F : xF} {x1 : Int32} {x2 : Int32} (S : MS h) (M : MX 72 F) (hZ : ∀ (o : xO) (F' : xF), (MX 72 F') ∧ (∃ v : Int32, o = .inl (some (.inl v))) → Z o (mh h F')) : xC 100 135 [.inr (.inr (8, 1)), .inl x1, .inl x2] (mh h F) Z := by
  refine ⟨rfl, S.2.2.1, S.2.2.2, ?_⟩
  show xR _ 135 0 ([.inr (.inr (8, 1)), .inl x1, .inl x2], [], mh h F) Z
  have jn1 : ∀ (sjn1_0 : Int32), (0 ≤ sjn1_0.toInt ∧ sjn1_0.toInt ≤ 1) → (sjn1_0.toInt = 0 → 0 ≤ x1.toInt ∧ x1.toInt ≤ 2 ∧ 0 ≤ x2.toInt ∧ x2.toInt ≤ 23) → xR (90) 135 14 ([.inr (.inr (8, 1)), .inl x1, .inl x2], [.inl sjn1_0, .inr (.inr (8, 1))], mh h F) Z := by
    intro sjn1_0 kjn1_0 kjn1_1
    refine xR.blk c135_14 ?_
    refine q_callv (j := 1) rfl (by decide) ⟨Nat.le_refl 1, Nat.le_of_eq S.1.symm⟩ (Nat.le_of_ble_eq_true rfl) (Nat.le_of_ble_eq_true rfl) (by show x_ce h + 0 ≤ 0; rw [S.2.2.1]; exact Nat.le_refl 0) (by show x_so h + 0 ≤ 0; rw [S.2.2.2]; exact Nat.le_refl 0) ?_
    refine xC.up (tv91 (h := x_setc h 0 0) (F := F) (x1 := sjn1_0) S.set  (fun o4 F5 hp => ?_)) (by omega)
    obtain ⟨q8, ⟨v7, rfl, q6⟩⟩ := hp
    subst q8
    show x_seq _ _ _ _ ([.inr (.inr (8, 1)), .inl x1, .inl x2], [.inl v7], mh h (x_u2 F 8 0 sjn1_0))
    refine v_if_eq (fun d9 => ?_) (fun d9 => ?_)
    · skip
      refine xR.blk c135_24 ?_
      refine q_aload rfl (by decide) ?_
      refine m_gfr S (n := 72) (by decide) ?_
      refine v_iconst (k := 24) rfl (fun v10 e11 => ?_)
      refine q_iload rfl ?_
      refine v_imul' e11 (by omega) (fun v12 e13 => ?_)
      refine q_iload rfl ?_
      refine v_iadd (by omega) (fun v14 e15 => ?_)
      refine m_ald (k := 6) (n := 72) S (by decide) (by omega) (by omega) ?_
      show x_seq _ _ _ _ ([.inr (.inr (8, 1)), .inl x1, .inl x2], [.inl (F 25 v14.toNatClampNeg)], mh h (x_u2 F 8 0 sjn1_0))
      refine q_goto ?_
      refine xR.blk c135_35 ?_
      exact q_iret (hZ _ _ ⟨(MX.putf (k := 0) (v := sjn1_0) M (fun lo hi hm => by simp only [mfl, List.mem_cons, Prod.mk.injEq, List.not_mem_nil, or_false] at hm; omega)), ⟨_, rfl⟩⟩)
    · skip
      refine v_iconst (k := 0) rfl (fun v16 e17 => ?_)
      refine q_goto ?_
      refine xR.blk c135_35 ?_
      exact q_iret (hZ _ _ ⟨(MX.putf (k := 0) (v := sjn1_0) M (fun lo hi hm => by simp only [mfl, List.mem_cons, Prod.mk.injEq, List.not_mem_nil, or_false] at hm; omega)), ⟨_, rfl⟩⟩)
  refine xR.blk c135_0 ?_
  refine q_aload rfl (by decide) ?_
  refine q_iload rfl ?_
  refine q_iload rfl ?_
  refine q_call (Nat.le_of_ble_eq_true rfl) (Nat.le_of_ble_eq_true rfl) (by show x_ce h + 0 ≤ 0; rw [S.2.2.1]; exact Nat.le_refl 0) (by show x_so h + 0 ≤ 0; rw [S.2.2.2]; exact Nat.le_refl 0) ?_
  refine xC.up (tv93 (h := x_setc h 0 0) (F := F) (x0 := x1) (x1 := x2) S.set  (fun o18 F19 hp => ?_)) (by omega)
  obtain ⟨hF22, ⟨v21, rfl, q20⟩⟩ := hp
  rw [hF22]
  show x_seq _ _ _ _ ([.inr (.inr (8, 1)), .inl x1, .inl x2], [.inl v21, .inr (.inr (8, 1))], mh h F)
  refine v_if_eq (fun d23 => ?_) (fun d23 => ?_)
  · skip
    refine xR.blk c135_13 ?_
    refine v_iconst (k := 1) rfl (fun v24 e25 => ?_)
    refine q_goto ?_
    exact (jn1 v24 (by omega) (by omega)).up (by omega)
  · skip
    refine v_iconst (k := 0) rfl (fun v26 e27 => ?_)
    refine q_goto ?_
    exact (jn1 v26 (by omega) (by omega)).up (by omega)
theorem tv136 {h : xH} {Z : xO → xH → Prop} {F : xF} {x1 : Int32} {x2 : Int32} {x3 : Int32} (S : MS h) (M : MX 72 F) (hZ : ∀ (o : xO) (F' : xF), (MX 72 F') ∧ (∃ v : Int32, o = .inl (some (.inl v))) → Z o (mh h F')) : xC 100 136 [.inr (.inr (8, 1)), .inl x1, .inl x2, .inl x3] (mh h F) Z := by
  refine ⟨rfl, S.2.2.1, S.2.2.2, ?_⟩
  show xR _ 136 0 ([.inr (.inr (8, 1)), .inl x1, .inl x2, .inl x3, .inr (.inr (0, 0))], [], mh h F) Z
  have jn1 : ∀ (sjn1_0 : Int32), (0 ≤ sjn1_0.toInt ∧ sjn1_0.toInt ≤ 1) → (sjn1_0.toInt = 0 → 0 ≤ x1.toInt ∧ x1.toInt ≤ 2 ∧ 0 ≤ x2.toInt ∧ x2.toInt ≤ 23) → xR (90) 136 14 ([.inr (.inr (8, 1)), .inl x1, .inl x2, .inl x3, .inr (.inr (0, 0))], [.inl sjn1_0, .inr (.inr (8, 1))], mh h F) Z := by
    intro sjn1_0 kjn1_0 kjn1_1
    refine xR.blk c136_14 ?_
    refine q_callv (j := 1) rfl (by decide) ⟨Nat.le_refl 1, Nat.le_of_eq S.1.symm⟩ (Nat.le_of_ble_eq_true rfl) (Nat.le_of_ble_eq_true rfl) (by show x_ce h + 0 ≤ 0; rw [S.2.2.1]; exact Nat.le_refl 0) (by show x_so h + 0 ≤ 0; rw [S.2.2.2]; exact Nat.le_refl 0) ?_
    refine xC.up (tv91 (h := x_setc h 0 0) (F := F) (x1 := sjn1_0) S.set  (fun o4 F5 hp => ?_)) (by omega)
    obtain ⟨q8, ⟨v7, rfl, q6⟩⟩ := hp
    subst q8
    show x_seq _ _ _ _ ([.inr (.inr (8, 1)), .inl x1, .inl x2, .inl x3, .inr (.inr (0, 0))], [.inl v7], mh h (x_u2 F 8 0 sjn1_0))
    refine v_if_eq (fun d9 => ?_) (fun d9 => ?_)
    · skip
      refine xR.blk c136_22 ?_
      refine v_iconst (k := 24) rfl (fun v10 e11 => ?_)
      refine q_iload rfl ?_
      refine v_imul' e11 (by omega) (fun v12 e13 => ?_)
      refine q_iload rfl ?_
      refine v_iadd (by omega) (fun v14 e15 => ?_)
      refine q_istore (Nat.le_of_ble_eq_true rfl) ?_
      show x_seq _ _ _ _ ([.inr (.inr (8, 1)), .inl x1, .inl x2, .inl x3, .inl v14], [], mh h (x_u2 F 8 0 sjn1_0))
      refine q_aload rfl (by decide) ?_
      refine m_gfr S (n := 72) (by decide) ?_
      refine q_iload rfl ?_
      refine m_ald (k := 29) (n := 72) S (by decide) (by omega) (by omega) ?_
      have e16 : 0 ≤ (F 47 v14.toNatClampNeg).toInt ∧ (F 47 v14.toNatClampNeg).toInt ≤ 5 := M.rg (lo := 0) (hi := 5) (by decide) _
      show x_seq _ _ _ _ ([.inr (.inr (8, 1)), .inl x1, .inl x2, .inl x3, .inl v14], [.inl (F 47 v14.toNatClampNeg)], mh h (x_u2 F 8 0 sjn1_0))
      refine v_if_eq (fun d17 => ?_) (fun d17 => ?_)
      · skip
        refine xR.blk c136_72 ?_
        refine v_iconst (k := -1) rfl (fun v18 e19 => ?_)
        refine q_goto ?_
        refine xR.blk c136_73 ?_
        exact q_iret (hZ _ _ ⟨(MX.putf (k := 0) (v := sjn1_0) M (fun lo hi hm => by simp only [mfl, List.mem_cons, Prod.mk.injEq, List.not_mem_nil, or_false] at hm; omega)), ⟨_, rfl⟩⟩)
      · skip
        refine q_iload rfl ?_
        refine v_iconst (k := 0) rfl (fun v20 e21 => ?_)
        refine q_aload rfl (by decide) ?_
        refine m_gfr S (n := 72) (by decide) ?_
        refine q_iload rfl ?_
        refine m_ald (k := 45) (n := 72) S (by decide) (by omega) (by omega) ?_
        have e22 : 0 ≤ (F 63 v14.toNatClampNeg).toInt ∧ (F 63 v14.toNatClampNeg).toInt ≤ 16 := M.rg (lo := 0) (hi := 16) (by decide) _
        show x_seq _ _ _ _ ([.inr (.inr (8, 1)), .inl x1, .inl x2, .inl x3, .inl v14], [.inl (F 63 v14.toNatClampNeg), .inl v20, .inl x3], mh h (x_u2 F 8 0 sjn1_0))
        refine v_iconst (k := 1) rfl (fun v23 e24 => ?_)
        refine v_isub (by omega) (fun v25 e26 => ?_)
        refine q_call (Nat.le_of_ble_eq_true rfl) (Nat.le_of_ble_eq_true rfl) (by show x_ce h + 0 ≤ 0; rw [S.2.2.1]; exact Nat.le_refl 0) (by show x_so h + 0 ≤ 0; rw [S.2.2.2]; exact Nat.le_refl 0) ?_
        refine xC.up (tv92 (h := x_setc h 0 0) (F := (x_u2 F 8 0 sjn1_0)) (x0 := x3) (x1 := v20) (x2 := v25) S.set  (fun o27 F28 hp => ?_)) (by omega)
        obtain ⟨hF31, ⟨v30, rfl, q29⟩⟩ := hp
        rw [hF31]
        show x_seq _ _ _ _ ([.inr (.inr (8, 1)), .inl x1, .inl x2, .inl x3, .inl v14], [.inl v30], mh h (x_u2 F 8 0 sjn1_0))
        refine v_if_eq (fun d32 => ?_) (fun d32 => ?_)
        · skip
          refine xR.blk c136_72 ?_
          refine v_iconst (k := -1) rfl (fun v33 e34 => ?_)
          refine q_goto ?_
          refine xR.blk c136_73 ?_
          exact q_iret (hZ _ _ ⟨(MX.putf (k := 0) (v := sjn1_0) M (fun lo hi hm => by simp only [mfl, List.mem_cons, Prod.mk.injEq, List.not_mem_nil, or_false] at hm; omega)), ⟨_, rfl⟩⟩)
        · skip
          refine q_aload rfl (by decide) ?_
          refine m_gfr S (n := 1152) (by decide) ?_
          refine v_iconst (k := 16) rfl (fun v35 e36 => ?_)
          refine q_iload rfl ?_
          refine v_imul' e36 (by omega) (fun v37 e38 => ?_)
          refine q_iload rfl ?_
          refine v_iadd (by omega) (fun v39 e40 => ?_)
          refine m_ald (k := 46) (n := 1152) S (by decide) (by omega) (by omega) ?_
          show x_seq _ _ _ _ ([.inr (.inr (8, 1)), .inl x1, .inl x2, .inl x3, .inl v14], [.inl (F 64 v39.toNatClampNeg)], mh h (x_u2 F 8 0 sjn1_0))
          refine q_goto ?_
          refine xR.blk c136_73 ?_
          exact q_iret (hZ _ _ ⟨(MX.putf (k := 0) (v := sjn1_0) M (fun lo hi hm => by simp only [mfl, List.mem_cons, Prod.mk.injEq, List.not_mem_nil, or_false] at hm; omega)), ⟨_, rfl⟩⟩)
    · skip
      refine v_iconst (k := 0) rfl (fun v41 e42 => ?_)
      exact q_iret (hZ _ _ ⟨(MX.putf (k := 0) (v := sjn1_0) M (fun lo hi hm => by simp only [mfl, List.mem_cons, Prod.mk.injEq, List.not_mem_nil, or_false] at hm; omega)), ⟨_, rfl⟩⟩)
  refine xR.blk c136_0 ?_
  refine q_aload rfl (by decide) ?_
  refine q_iload rfl ?_
  refine q_iload rfl ?_
  refine q_call (Nat.le_of_ble_eq_true rfl) (Nat.le_of_ble_eq_true rfl) (by show x_ce h + 0 ≤ 0; rw [S.2.2.1]; exact Nat.le_refl 0) (by show x_so h + 0 ≤ 0; rw [S.2.2.2]; exact Nat.le_refl 0) ?_
  refine xC.up (tv93 (h := x_setc h 0 0) (F := F) (x0 := x1) (x1 := x2) S.set  (fun o43 F44 hp => ?_)) (by omega)
  obtain ⟨hF47, ⟨v46, rfl, q45⟩⟩ := hp
  rw [hF47]
  show x_seq _ _ _ _ ([.inr (.inr (8, 1)), .inl x1, .inl x2, .inl x3, .inr (.inr (0, 0))], [.inl v46, .inr (.inr (8, 1))], mh h F)
  refine v_if_eq (fun d48 => ?_) (fun d48 => ?_)
  · skip
    refine xR.blk c136_13 ?_
    refine v_iconst (k := 1) rfl (fun v49 e50 => ?_)
    refine q_goto ?_
    exact (jn1 v49 (by omega) (by omega)).up (by omega)
  · skip
    refine v_iconst (k := 0) rfl (fun v51 e52 => ?_)
    refine q_goto ?_
    exact (jn1 v51 (by omega) (by omega)).up (by omega)
theorem tv137 {h : xH} {Z : xO → xH → Prop} {F : xF} {x1 : Int32} {x2 : Int32} (S : MS h) (M : MX 72 F) (hZ : ∀ (o : xO) (F' : xF), (MX 72 F') ∧ (∃ v : Int32, o = .inl (some (.inl v))) → Z o (mh h F')) : xC 5000 137 [.inr (.inr (8, 1)), .inl x1, .inl x2] (mh h F) Z := by
  refine ⟨rfl, S.2.2.1, S.2.2.2, ?_⟩
  show xR _ 137 0 ([.inr (.inr (8, 1)), .inl x1, .inl x2, .inr (.inr (0, 0)), .inr (.inr (0, 0))], [], mh h F) Z
  have jn1 : ∀ (sjn1_0 : Int32), (0 ≤ sjn1_0.toInt ∧ sjn1_0.toInt ≤ 1) → (sjn1_0.toInt = 0 → 0 ≤ x1.toInt ∧ x1.toInt ≤ 2) → xR (4900) 137 24 ([.inr (.inr (8, 1)), .inl x1, .inl x2, .inr (.inr (0, 0)), .inr (.inr (0, 0))], [.inl sjn1_0, .inr (.inr (8, 1))], mh h F) Z := by
    intro sjn1_0 kjn1_0 kjn1_1
    refine xR.blk c137_24 ?_
    refine q_callv (j := 1) rfl (by decide) ⟨Nat.le_refl 1, Nat.le_of_eq S.1.symm⟩ (Nat.le_of_ble_eq_true rfl) (Nat.le_of_ble_eq_true rfl) (by show x_ce h + 0 ≤ 0; rw [S.2.2.1]; exact Nat.le_refl 0) (by show x_so h + 0 ≤ 0; rw [S.2.2.2]; exact Nat.le_refl 0) ?_
    refine xC.up (tv91 (h := x_setc h 0 0) (F := F) (x1 := sjn1_0) S.set  (fun o4 F5 hp => ?_)) (by omega)
    obtain ⟨q8, ⟨v7, rfl, q6⟩⟩ := hp
    subst q8
    show x_seq _ _ _ _ ([.inr (.inr (8, 1)), .inl x1, .inl x2, .inr (.inr (0, 0)), .inr (.inr (0, 0))], [.inl v7], mh h (x_u2 F 8 0 sjn1_0))
    refine v_if_eq (fun d9 => ?_) (fun d9 => ?_)
    · skip
      refine xR.blk c137_32 ?_
      refine q_iload rfl ?_
      refine v_iconst (k := 5) rfl (fun v10 e11 => ?_)
      refine v_icmp_ne (fun d12 => ?_) (fun d12 => ?_)
      · skip
        refine xR.blk c137_46 ?_
        refine v_iconst (k := 0) rfl (fun v13 e14 => ?_)
        refine q_goto ?_
        refine xR.blk c137_47 ?_
        refine q_istore (Nat.le_of_ble_eq_true rfl) ?_
        show x_seq _ _ _ _ ([.inr (.inr (8, 1)), .inl x1, .inl x2, .inl v13, .inr (.inr (0, 0))], [], mh h (x_u2 F 8 0 sjn1_0))
        refine v_iconst (k := 0) rfl (fun v15 e16 => ?_)
        refine q_istore (Nat.le_of_ble_eq_true rfl) ?_
        show x_seq _ _ _ _ ([.inr (.inr (8, 1)), .inl x1, .inl x2, .inl v13, .inl v15], [], mh h (x_u2 F 8 0 sjn1_0))
        refine q_goto ?_
        have lp17 : ∀ (m18 : Nat) (ylp17_3 : Int32) (ylp17_4 : Int32), (0 ≤ ylp17_4.toInt ∧ ylp17_4.toInt ≤ 3) → (3 - ylp17_4.toInt).toNat < m18 → xR (3000 + 20 * m18) 137 51 ([.inr (.inr (8, 1)), .inl x1, .inl x2, .inl ylp17_3, .inl ylp17_4], [], mh h (x_u2 F 8 0 sjn1_0)) Z := by
          intro m18
          induction m18 with
          | zero => intro ylp17_3 ylp17_4 klp17_0 kmlp17; exact absurd kmlp17 (by omega)
          | succ m18 ih19 =>
            intro ylp17_3 ylp17_4 klp17_0 kmlp17
            rw [show 3000 + 20 * (m18 + 1) = 3000 + 20 * m18 + 20 by omega]
            refine xR.blk c137_51 ?_
            refine q_iload rfl ?_
            refine v_iconst (k := 3) rfl (fun v20 e21 => ?_)
            refine v_icmp_ge (fun d22 => ?_) (fun d22 => ?_)
            · skip
              refine xR.blk c137_89 ?_
              refine v_iconst (k := 0) rfl (fun v23 e24 => ?_)
              refine q_istore (Nat.le_of_ble_eq_true rfl) ?_
              show x_seq _ _ _ _ ([.inr (.inr (8, 1)), .inl x1, .inl x2, .inl ylp17_3, .inl v23], [], mh h (x_u2 F 8 0 sjn1_0))
              refine q_goto ?_
              have lp25 : ∀ (m26 : Nat) (ylp25_3 : Int32) (ylp25_4 : Int32), (0 ≤ ylp25_4.toInt ∧ ylp25_4.toInt ≤ 12) → (12 - ylp25_4.toInt).toNat < m26 → xR (2500 + 20 * m26) 137 92 ([.inr (.inr (8, 1)), .inl x1, .inl x2, .inl ylp25_3, .inl ylp25_4], [], mh h (x_u2 F 8 0 sjn1_0)) Z := by
                intro m26
                induction m26 with
                | zero => intro ylp25_3 ylp25_4 klp25_0 kmlp25; exact absurd kmlp25 (by omega)
                | succ m26 ih27 =>
                  intro ylp25_3 ylp25_4 klp25_0 kmlp25
                  rw [show 2500 + 20 * (m26 + 1) = 2500 + 20 * m26 + 20 by omega]
                  refine xR.blk c137_92 ?_
                  refine q_iload rfl ?_
                  refine v_iconst (k := 12) rfl (fun v28 e29 => ?_)
                  refine v_icmp_ge (fun d30 => ?_) (fun d30 => ?_)
                  · skip
                    refine xR.blk c137_133 ?_
                    refine v_iconst (k := 0) rfl (fun v31 e32 => ?_)
                    refine q_istore (Nat.le_of_ble_eq_true rfl) ?_
                    show x_seq _ _ _ _ ([.inr (.inr (8, 1)), .inl x1, .inl x2, .inl ylp25_3, .inl v31], [], mh h (x_u2 F 8 0 sjn1_0))
                    refine q_goto ?_
                    have lp33 : ∀ (m34 : Nat) (ylp33_3 : Int32) (ylp33_4 : Int32), (0 ≤ ylp33_4.toInt ∧ ylp33_4.toInt ≤ 5) → (5 - ylp33_4.toInt).toNat < m34 → xR (2000 + 20 * m34) 137 136 ([.inr (.inr (8, 1)), .inl x1, .inl x2, .inl ylp33_3, .inl ylp33_4], [], mh h (x_u2 F 8 0 sjn1_0)) Z := by
                      intro m34
                      induction m34 with
                      | zero => intro ylp33_3 ylp33_4 klp33_0 kmlp33; exact absurd kmlp33 (by omega)
                      | succ m34 ih35 =>
                        intro ylp33_3 ylp33_4 klp33_0 kmlp33
                        rw [show 2000 + 20 * (m34 + 1) = 2000 + 20 * m34 + 20 by omega]
                        refine xR.blk c137_136 ?_
                        refine q_iload rfl ?_
                        refine v_iconst (k := 5) rfl (fun v36 e37 => ?_)
                        refine v_icmp_ge (fun d38 => ?_) (fun d38 => ?_)
                        · skip
                          refine xR.blk c137_175 ?_
                          refine v_iconst (k := 0) rfl (fun v39 e40 => ?_)
                          refine q_istore (Nat.le_of_ble_eq_true rfl) ?_
                          show x_seq _ _ _ _ ([.inr (.inr (8, 1)), .inl x1, .inl x2, .inl ylp33_3, .inl v39], [], mh h (x_u2 F 8 0 sjn1_0))
                          refine q_goto ?_
                          have lp41 : ∀ (m42 : Nat) (ylp41_3 : Int32) (ylp41_4 : Int32), (0 ≤ ylp41_4.toInt ∧ ylp41_4.toInt ≤ 16) → (16 - ylp41_4.toInt).toNat < m42 → xR (1000 + 30 * m42) 137 178 ([.inr (.inr (8, 1)), .inl x1, .inl x2, .inl ylp41_3, .inl ylp41_4], [], mh h (x_u2 F 8 0 sjn1_0)) Z := by
                            intro m42
                            induction m42 with
                            | zero => intro ylp41_3 ylp41_4 klp41_0 kmlp41; exact absurd kmlp41 (by omega)
                            | succ m42 ih43 =>
                              intro ylp41_3 ylp41_4 klp41_0 kmlp41
                              rw [show 1000 + 30 * (m42 + 1) = 1000 + 30 * m42 + 30 by omega]
                              refine xR.blk c137_178 ?_
                              refine q_iload rfl ?_
                              refine q_aload rfl (by decide) ?_
                              refine m_gfi S ?_
                              have e44 : 0 ≤ (F 8 20).toInt ∧ (F 8 20).toInt ≤ 16 := M.fl (lo := 0) (hi := 16) (by decide)
                              show x_seq _ _ _ _ ([.inr (.inr (8, 1)), .inl x1, .inl x2, .inl ylp41_3, .inl ylp41_4], [.inl (F 8 20), .inl ylp41_4], mh h (x_u2 F 8 0 sjn1_0))
                              refine v_icmp_ge (fun d45 => ?_) (fun d45 => ?_)
                              · skip
                                refine xR.blk c137_248 ?_
                                refine v_iconst (k := 24) rfl (fun v46 e47 => ?_)
                                refine q_iload rfl ?_
                                refine v_imul' e47 (by omega) (fun v48 e49 => ?_)
                                refine q_istore (Nat.le_of_ble_eq_true rfl) ?_
                                show x_seq _ _ _ _ ([.inr (.inr (8, 1)), .inl x1, .inl x2, .inl ylp41_3, .inl v48], [], mh h (x_u2 F 8 0 sjn1_0))
                                refine q_goto ?_
                                have lp50 : ∀ (m51 : Nat) (ylp50_3 : Int32) (ylp50_4 : Int32), (24 * x1.toInt ≤ ylp50_4.toInt ∧ ylp50_4.toInt ≤ 24 * x1.toInt + 24) → (24 * x1.toInt + 24 - ylp50_4.toInt).toNat < m51 → xR (20 + 20 * m51) 137 254 ([.inr (.inr (8, 1)), .inl x1, .inl x2, .inl ylp50_3, .inl ylp50_4], [], mh h (x_u2 F 8 0 sjn1_0)) Z := by
                                  intro m51
                                  induction m51 with
                                  | zero => intro ylp50_3 ylp50_4 klp50_0 kmlp50; exact absurd kmlp50 (by omega)
                                  | succ m51 ih52 =>
                                    intro ylp50_3 ylp50_4 klp50_0 kmlp50
                                    rw [show 20 + 20 * (m51 + 1) = 20 + 20 * m51 + 20 by omega]
                                    refine xR.blk c137_254 ?_
                                    refine q_iload rfl ?_
                                    refine v_iconst (k := 24) rfl (fun v53 e54 => ?_)
                                    refine q_iload rfl ?_
                                    refine v_imul' e54 (by omega) (fun v55 e56 => ?_)
                                    refine v_iconst (k := 24) rfl (fun v57 e58 => ?_)
                                    refine v_iadd (by omega) (fun v59 e60 => ?_)
                                    refine v_icmp_ge (fun d61 => ?_) (fun d61 => ?_)
                                    · skip
                                      refine xR.blk c137_295 ?_
                                      refine q_iload rfl ?_
                                      exact q_iret (hZ _ _ ⟨(MX.putf (k := 0) (v := sjn1_0) M (fun lo hi hm => by simp only [mfl, List.mem_cons, Prod.mk.injEq, List.not_mem_nil, or_false] at hm; omega)), ⟨_, rfl⟩⟩)
                                    · skip
                                      refine q_iload rfl ?_
                                      refine v_iconst (k := 4) rfl (fun v62 e63 => ?_)
                                      refine v_icmp_ne (fun d64 => ?_) (fun d64 => ?_)
                                      · skip
                                        refine xR.blk c137_287 ?_
                                        refine q_iload rfl ?_
                                        refine q_goto ?_
                                        refine xR.blk c137_288 ?_
                                        refine q_istore (Nat.le_of_ble_eq_true rfl) ?_
                                        show x_seq _ _ _ _ ([.inr (.inr (8, 1)), .inl x1, .inl x2, .inl ylp50_3, .inl ylp50_4], [], mh h (x_u2 F 8 0 sjn1_0))
                                        refine v_iinc (k := 1) rfl rfl (by omega) (by omega) (fun v65 e66 => ?_)
                                        show x_seq _ _ _ _ ([.inr (.inr (8, 1)), .inl x1, .inl x2, .inl ylp50_3, .inl v65], [], mh h (x_u2 F 8 0 sjn1_0))
                                        refine q_goto ?_
                                        exact (ih52 ylp50_3 v65 (by omega) (by omega)).up (by omega)
                                      · skip
                                        refine q_aload rfl (by decide) ?_
                                        refine m_gfr S (n := 72) (by decide) ?_
                                        refine q_iload rfl ?_
                                        refine m_ald (k := 5) (n := 72) S (by decide) (by omega) (by omega) ?_
                                        show x_seq _ _ _ _ ([.inr (.inr (8, 1)), .inl x1, .inl x2, .inl ylp50_3, .inl ylp50_4], [.inl (F 24 ylp50_4.toNatClampNeg)], mh h (x_u2 F 8 0 sjn1_0))
                                        refine v_if_lt (fun d67 => ?_) (fun d67 => ?_)
                                        · skip
                                          refine xR.blk c137_287 ?_
                                          refine q_iload rfl ?_
                                          refine q_goto ?_
                                          refine xR.blk c137_288 ?_
                                          refine q_istore (Nat.le_of_ble_eq_true rfl) ?_
                                          show x_seq _ _ _ _ ([.inr (.inr (8, 1)), .inl x1, .inl x2, .inl ylp50_3, .inl ylp50_4], [], mh h (x_u2 F 8 0 sjn1_0))
                                          refine v_iinc (k := 1) rfl rfl (by omega) (by omega) (fun v68 e69 => ?_)
                                          show x_seq _ _ _ _ ([.inr (.inr (8, 1)), .inl x1, .inl x2, .inl ylp50_3, .inl v68], [], mh h (x_u2 F 8 0 sjn1_0))
                                          refine q_goto ?_
                                          exact (ih52 ylp50_3 v68 (by omega) (by omega)).up (by omega)
                                        · skip
                                          refine q_iload rfl ?_
                                          refine v_iconst (k := 1) rfl (fun v70 e71 => ?_)
                                          refine v_bin (fun v72 => ?_)
                                          refine q_goto ?_
                                          refine xR.blk c137_288 ?_
                                          refine q_istore (Nat.le_of_ble_eq_true rfl) ?_
                                          show x_seq _ _ _ _ ([.inr (.inr (8, 1)), .inl x1, .inl x2, .inl v72, .inl ylp50_4], [], mh h (x_u2 F 8 0 sjn1_0))
                                          refine v_iinc (k := 1) rfl rfl (by omega) (by omega) (fun v74 e75 => ?_)
                                          show x_seq _ _ _ _ ([.inr (.inr (8, 1)), .inl x1, .inl x2, .inl v72, .inl v74], [], mh h (x_u2 F 8 0 sjn1_0))
                                          refine q_goto ?_
                                          exact (ih52 v72 v74 (by omega) (by omega)).up (by omega)
                                exact (lp50 25 ylp41_3 v48 (by omega) (by omega)).up (by omega)
                              · skip
                                refine q_iload rfl ?_
                                refine v_iconst (k := 3) rfl (fun v76 e77 => ?_)
                                refine v_icmp_ne (fun d78 => ?_) (fun d78 => ?_)
                                · skip
                                  refine xR.blk c137_240 ?_
                                  refine q_iload rfl ?_
                                  refine q_goto ?_
                                  refine xR.blk c137_241 ?_
                                  refine q_istore (Nat.le_of_ble_eq_true rfl) ?_
                                  show x_seq _ _ _ _ ([.inr (.inr (8, 1)), .inl x1, .inl x2, .inl ylp41_3, .inl ylp41_4], [], mh h (x_u2 F 8 0 sjn1_0))
                                  refine v_iinc (k := 1) rfl rfl (by omega) (by omega) (fun v79 e80 => ?_)
                                  show x_seq _ _ _ _ ([.inr (.inr (8, 1)), .inl x1, .inl x2, .inl ylp41_3, .inl v79], [], mh h (x_u2 F 8 0 sjn1_0))
                                  refine q_goto ?_
                                  exact (ih43 ylp41_3 v79 (by omega) (by omega)).up (by omega)
                                · skip
                                  refine q_aload rfl (by decide) ?_
                                  refine m_gfr S (n := 16) (by decide) ?_
                                  refine q_iload rfl ?_
                                  refine m_ald (k := 21) (n := 16) S (by decide) (by omega) (by omega) ?_
                                  show x_seq _ _ _ _ ([.inr (.inr (8, 1)), .inl x1, .inl x2, .inl ylp41_3, .inl ylp41_4], [.inl (F 39 ylp41_4.toNatClampNeg)], mh h (x_u2 F 8 0 sjn1_0))
                                  refine q_iload rfl ?_
                                  refine v_icmp_eq (fun d81 => ?_) (fun d81 => ?_)
                                  · skip
                                    refine xR.blk c137_214 ?_
                                    refine q_aload rfl (by decide) ?_
                                    refine m_gfr S (n := 16) (by decide) ?_
                                    refine q_iload rfl ?_
                                    refine m_ald (k := 23) (n := 16) S (by decide) (by omega) (by omega) ?_
                                    have e82 : -1 ≤ (F 41 ylp41_4.toNatClampNeg).toInt ∧ (F 41 ylp41_4.toNatClampNeg).toInt ≤ 71 := M.rg (lo := -1) (hi := 71) (by decide) _
                                    show x_seq _ _ _ _ ([.inr (.inr (8, 1)), .inl x1, .inl x2, .inl ylp41_3, .inl ylp41_4], [.inl (F 41 ylp41_4.toNatClampNeg)], mh h (x_u2 F 8 0 sjn1_0))
                                    refine v_if_ge (fun d83 => ?_) (fun d83 => ?_)
                                    · skip
                                      refine xR.blk c137_240 ?_
                                      refine q_iload rfl ?_
                                      refine q_goto ?_
                                      refine xR.blk c137_241 ?_
                                      refine q_istore (Nat.le_of_ble_eq_true rfl) ?_
                                      show x_seq _ _ _ _ ([.inr (.inr (8, 1)), .inl x1, .inl x2, .inl ylp41_3, .inl ylp41_4], [], mh h (x_u2 F 8 0 sjn1_0))
                                      refine v_iinc (k := 1) rfl rfl (by omega) (by omega) (fun v84 e85 => ?_)
                                      show x_seq _ _ _ _ ([.inr (.inr (8, 1)), .inl x1, .inl x2, .inl ylp41_3, .inl v84], [], mh h (x_u2 F 8 0 sjn1_0))
                                      refine q_goto ?_
                                      exact (ih43 ylp41_3 v84 (by omega) (by omega)).up (by omega)
                                    · skip
                                      refine q_aload rfl (by decide) ?_
                                      refine m_gfr S (n := 16) (by decide) ?_
                                      refine q_iload rfl ?_
                                      refine m_ald (k := 24) (n := 16) S (by decide) (by omega) (by omega) ?_
                                      have e86 : 0 ≤ (F 42 ylp41_4.toNatClampNeg).toInt ∧ (F 42 ylp41_4.toNatClampNeg).toInt ≤ 1 := M.rg (lo := 0) (hi := 1) (by decide) _
                                      show x_seq _ _ _ _ ([.inr (.inr (8, 1)), .inl x1, .inl x2, .inl ylp41_3, .inl ylp41_4], [.inl (F 42 ylp41_4.toNatClampNeg)], mh h (x_u2 F 8 0 sjn1_0))
                                      refine v_if_ne (fun d87 => ?_) (fun d87 => ?_)
                                      · skip
                                        refine xR.blk c137_240 ?_
                                        refine q_iload rfl ?_
                                        refine q_goto ?_
                                        refine xR.blk c137_241 ?_
                                        refine q_istore (Nat.le_of_ble_eq_true rfl) ?_
                                        show x_seq _ _ _ _ ([.inr (.inr (8, 1)), .inl x1, .inl x2, .inl ylp41_3, .inl ylp41_4], [], mh h (x_u2 F 8 0 sjn1_0))
                                        refine v_iinc (k := 1) rfl rfl (by omega) (by omega) (fun v88 e89 => ?_)
                                        show x_seq _ _ _ _ ([.inr (.inr (8, 1)), .inl x1, .inl x2, .inl ylp41_3, .inl v88], [], mh h (x_u2 F 8 0 sjn1_0))
                                        refine q_goto ?_
                                        exact (ih43 ylp41_3 v88 (by omega) (by omega)).up (by omega)
                                      · skip
                                        refine q_iload rfl ?_
                                        refine v_iconst (k := 1) rfl (fun v90 e91 => ?_)
                                        refine v_bin (fun v92 => ?_)
                                        refine q_goto ?_
                                        refine xR.blk c137_241 ?_
                                        refine q_istore (Nat.le_of_ble_eq_true rfl) ?_
                                        show x_seq _ _ _ _ ([.inr (.inr (8, 1)), .inl x1, .inl x2, .inl v92, .inl ylp41_4], [], mh h (x_u2 F 8 0 sjn1_0))
                                        refine v_iinc (k := 1) rfl rfl (by omega) (by omega) (fun v94 e95 => ?_)
                                        show x_seq _ _ _ _ ([.inr (.inr (8, 1)), .inl x1, .inl x2, .inl v92, .inl v94], [], mh h (x_u2 F 8 0 sjn1_0))
                                        refine q_goto ?_
                                        exact (ih43 v92 v94 (by omega) (by omega)).up (by omega)
                                  · skip
                                    refine q_aload rfl (by decide) ?_
                                    refine m_gfr S (n := 16) (by decide) ?_
                                    refine q_iload rfl ?_
                                    refine m_ald (k := 22) (n := 16) S (by decide) (by omega) (by omega) ?_
                                    show x_seq _ _ _ _ ([.inr (.inr (8, 1)), .inl x1, .inl x2, .inl ylp41_3, .inl ylp41_4], [.inl (F 40 ylp41_4.toNatClampNeg)], mh h (x_u2 F 8 0 sjn1_0))
                                    refine q_iload rfl ?_
                                    refine v_icmp_ne (fun d96 => ?_) (fun d96 => ?_)
                                    · skip
                                      refine xR.blk c137_240 ?_
                                      refine q_iload rfl ?_
                                      refine q_goto ?_
                                      refine xR.blk c137_241 ?_
                                      refine q_istore (Nat.le_of_ble_eq_true rfl) ?_
                                      show x_seq _ _ _ _ ([.inr (.inr (8, 1)), .inl x1, .inl x2, .inl ylp41_3, .inl ylp41_4], [], mh h (x_u2 F 8 0 sjn1_0))
                                      refine v_iinc (k := 1) rfl rfl (by omega) (by omega) (fun v97 e98 => ?_)
                                      show x_seq _ _ _ _ ([.inr (.inr (8, 1)), .inl x1, .inl x2, .inl ylp41_3, .inl v97], [], mh h (x_u2 F 8 0 sjn1_0))
                                      refine q_goto ?_
                                      exact (ih43 ylp41_3 v97 (by omega) (by omega)).up (by omega)
                                    · skip
                                      refine q_goto ?_
                                      refine xR.blk c137_214 ?_
                                      refine q_aload rfl (by decide) ?_
                                      refine m_gfr S (n := 16) (by decide) ?_
                                      refine q_iload rfl ?_
                                      refine m_ald (k := 23) (n := 16) S (by decide) (by omega) (by omega) ?_
                                      have e99 : -1 ≤ (F 41 ylp41_4.toNatClampNeg).toInt ∧ (F 41 ylp41_4.toNatClampNeg).toInt ≤ 71 := M.rg (lo := -1) (hi := 71) (by decide) _
                                      show x_seq _ _ _ _ ([.inr (.inr (8, 1)), .inl x1, .inl x2, .inl ylp41_3, .inl ylp41_4], [.inl (F 41 ylp41_4.toNatClampNeg)], mh h (x_u2 F 8 0 sjn1_0))
                                      refine v_if_ge (fun d100 => ?_) (fun d100 => ?_)
                                      · skip
                                        refine xR.blk c137_240 ?_
                                        refine q_iload rfl ?_
                                        refine q_goto ?_
                                        refine xR.blk c137_241 ?_
                                        refine q_istore (Nat.le_of_ble_eq_true rfl) ?_
                                        show x_seq _ _ _ _ ([.inr (.inr (8, 1)), .inl x1, .inl x2, .inl ylp41_3, .inl ylp41_4], [], mh h (x_u2 F 8 0 sjn1_0))
                                        refine v_iinc (k := 1) rfl rfl (by omega) (by omega) (fun v101 e102 => ?_)
                                        show x_seq _ _ _ _ ([.inr (.inr (8, 1)), .inl x1, .inl x2, .inl ylp41_3, .inl v101], [], mh h (x_u2 F 8 0 sjn1_0))
                                        refine q_goto ?_
                                        exact (ih43 ylp41_3 v101 (by omega) (by omega)).up (by omega)
                                      · skip
                                        refine q_aload rfl (by decide) ?_
                                        refine m_gfr S (n := 16) (by decide) ?_
                                        refine q_iload rfl ?_
                                        refine m_ald (k := 24) (n := 16) S (by decide) (by omega) (by omega) ?_
                                        have e103 : 0 ≤ (F 42 ylp41_4.toNatClampNeg).toInt ∧ (F 42 ylp41_4.toNatClampNeg).toInt ≤ 1 := M.rg (lo := 0) (hi := 1) (by decide) _
                                        show x_seq _ _ _ _ ([.inr (.inr (8, 1)), .inl x1, .inl x2, .inl ylp41_3, .inl ylp41_4], [.inl (F 42 ylp41_4.toNatClampNeg)], mh h (x_u2 F 8 0 sjn1_0))
                                        refine v_if_ne (fun d104 => ?_) (fun d104 => ?_)
                                        · skip
                                          refine xR.blk c137_240 ?_
                                          refine q_iload rfl ?_
                                          refine q_goto ?_
                                          refine xR.blk c137_241 ?_
                                          refine q_istore (Nat.le_of_ble_eq_true rfl) ?_
                                          show x_seq _ _ _ _ ([.inr (.inr (8, 1)), .inl x1, .inl x2, .inl ylp41_3, .inl ylp41_4], [], mh h (x_u2 F 8 0 sjn1_0))
                                          refine v_iinc (k := 1) rfl rfl (by omega) (by omega) (fun v105 e106 => ?_)
                                          show x_seq _ _ _ _ ([.inr (.inr (8, 1)), .inl x1, .inl x2, .inl ylp41_3, .inl v105], [], mh h (x_u2 F 8 0 sjn1_0))
                                          refine q_goto ?_
                                          exact (ih43 ylp41_3 v105 (by omega) (by omega)).up (by omega)
                                        · skip
                                          refine q_iload rfl ?_
                                          refine v_iconst (k := 1) rfl (fun v107 e108 => ?_)
                                          refine v_bin (fun v109 => ?_)
                                          refine q_goto ?_
                                          refine xR.blk c137_241 ?_
                                          refine q_istore (Nat.le_of_ble_eq_true rfl) ?_
                                          show x_seq _ _ _ _ ([.inr (.inr (8, 1)), .inl x1, .inl x2, .inl v109, .inl ylp41_4], [], mh h (x_u2 F 8 0 sjn1_0))
                                          refine v_iinc (k := 1) rfl rfl (by omega) (by omega) (fun v111 e112 => ?_)
                                          show x_seq _ _ _ _ ([.inr (.inr (8, 1)), .inl x1, .inl x2, .inl v109, .inl v111], [], mh h (x_u2 F 8 0 sjn1_0))
                                          refine q_goto ?_
                                          exact (ih43 v109 v111 (by omega) (by omega)).up (by omega)
                          exact (lp41 17 ylp33_3 v39 (by omega) (by omega)).up (by omega)
                        · skip
                          refine q_iload rfl ?_
                          refine v_iconst (k := 2) rfl (fun v113 e114 => ?_)
                          refine v_icmp_ne (fun d115 => ?_) (fun d115 => ?_)
                          · skip
                            refine xR.blk c137_167 ?_
                            refine q_iload rfl ?_
                            refine q_goto ?_
                            refine xR.blk c137_168 ?_
                            refine q_istore (Nat.le_of_ble_eq_true rfl) ?_
                            show x_seq _ _ _ _ ([.inr (.inr (8, 1)), .inl x1, .inl x2, .inl ylp33_3, .inl ylp33_4], [], mh h (x_u2 F 8 0 sjn1_0))
                            refine v_iinc (k := 1) rfl rfl (by omega) (by omega) (fun v116 e117 => ?_)
                            show x_seq _ _ _ _ ([.inr (.inr (8, 1)), .inl x1, .inl x2, .inl ylp33_3, .inl v116], [], mh h (x_u2 F 8 0 sjn1_0))
                            refine q_goto ?_
                            exact (ih35 ylp33_3 v116 (by omega) (by omega)).up (by omega)
                          · skip
                            refine q_aload rfl (by decide) ?_
                            refine m_gfr S (n := 15) (by decide) ?_
                            refine v_iconst (k := 5) rfl (fun v118 e119 => ?_)
                            refine q_iload rfl ?_
                            refine v_imul' e119 (by omega) (fun v120 e121 => ?_)
                            refine q_iload rfl ?_
                            refine v_iadd (by omega) (fun v122 e123 => ?_)
                            refine m_ald (k := 18) (n := 15) S (by decide) (by omega) (by omega) ?_
                            show x_seq _ _ _ _ ([.inr (.inr (8, 1)), .inl x1, .inl x2, .inl ylp33_3, .inl ylp33_4], [.inl (F 37 v122.toNatClampNeg)], mh h (x_u2 F 8 0 sjn1_0))
                            refine v_if_ge (fun d124 => ?_) (fun d124 => ?_)
                            · skip
                              refine xR.blk c137_167 ?_
                              refine q_iload rfl ?_
                              refine q_goto ?_
                              refine xR.blk c137_168 ?_
                              refine q_istore (Nat.le_of_ble_eq_true rfl) ?_
                              show x_seq _ _ _ _ ([.inr (.inr (8, 1)), .inl x1, .inl x2, .inl ylp33_3, .inl ylp33_4], [], mh h (x_u2 F 8 0 sjn1_0))
                              refine v_iinc (k := 1) rfl rfl (by omega) (by omega) (fun v125 e126 => ?_)
                              show x_seq _ _ _ _ ([.inr (.inr (8, 1)), .inl x1, .inl x2, .inl ylp33_3, .inl v125], [], mh h (x_u2 F 8 0 sjn1_0))
                              refine q_goto ?_
                              exact (ih35 ylp33_3 v125 (by omega) (by omega)).up (by omega)
                            · skip
                              refine q_iload rfl ?_
                              refine v_iconst (k := 1) rfl (fun v127 e128 => ?_)
                              refine v_bin (fun v129 => ?_)
                              refine q_goto ?_
                              refine xR.blk c137_168 ?_
                              refine q_istore (Nat.le_of_ble_eq_true rfl) ?_
                              show x_seq _ _ _ _ ([.inr (.inr (8, 1)), .inl x1, .inl x2, .inl v129, .inl ylp33_4], [], mh h (x_u2 F 8 0 sjn1_0))
                              refine v_iinc (k := 1) rfl rfl (by omega) (by omega) (fun v131 e132 => ?_)
                              show x_seq _ _ _ _ ([.inr (.inr (8, 1)), .inl x1, .inl x2, .inl v129, .inl v131], [], mh h (x_u2 F 8 0 sjn1_0))
                              refine q_goto ?_
                              exact (ih35 v129 v131 (by omega) (by omega)).up (by omega)
                    exact (lp33 6 ylp25_3 v31 (by omega) (by omega)).up (by omega)
                  · skip
                    refine q_iload rfl ?_
                    refine v_iconst (k := 1) rfl (fun v133 e134 => ?_)
                    refine v_icmp_ne (fun d135 => ?_) (fun d135 => ?_)
                    · skip
                      refine xR.blk c137_125 ?_
                      refine q_iload rfl ?_
                      refine q_goto ?_
                      refine xR.blk c137_126 ?_
                      refine q_istore (Nat.le_of_ble_eq_true rfl) ?_
                      show x_seq _ _ _ _ ([.inr (.inr (8, 1)), .inl x1, .inl x2, .inl ylp25_3, .inl ylp25_4], [], mh h (x_u2 F 8 0 sjn1_0))
                      refine v_iinc (k := 1) rfl rfl (by omega) (by omega) (fun v136 e137 => ?_)
                      show x_seq _ _ _ _ ([.inr (.inr (8, 1)), .inl x1, .inl x2, .inl ylp25_3, .inl v136], [], mh h (x_u2 F 8 0 sjn1_0))
                      refine q_goto ?_
                      exact (ih27 ylp25_3 v136 (by omega) (by omega)).up (by omega)
                    · skip
                      refine q_aload rfl (by decide) ?_
                      refine m_gfr S (n := 36) (by decide) ?_
                      refine v_iconst (k := 12) rfl (fun v138 e139 => ?_)
                      refine q_iload rfl ?_
                      refine v_imul' e139 (by omega) (fun v140 e141 => ?_)
                      refine q_iload rfl ?_
                      refine v_iadd (by omega) (fun v142 e143 => ?_)
                      refine m_ald (k := 17) (n := 36) S (by decide) (by omega) (by omega) ?_
                      show x_seq _ _ _ _ ([.inr (.inr (8, 1)), .inl x1, .inl x2, .inl ylp25_3, .inl ylp25_4], [.inl (F 36 v142.toNatClampNeg)], mh h (x_u2 F 8 0 sjn1_0))
                      refine v_if_ge (fun d144 => ?_) (fun d144 => ?_)
                      · skip
                        refine xR.blk c137_125 ?_
                        refine q_iload rfl ?_
                        refine q_goto ?_
                        refine xR.blk c137_126 ?_
                        refine q_istore (Nat.le_of_ble_eq_true rfl) ?_
                        show x_seq _ _ _ _ ([.inr (.inr (8, 1)), .inl x1, .inl x2, .inl ylp25_3, .inl ylp25_4], [], mh h (x_u2 F 8 0 sjn1_0))
                        refine v_iinc (k := 1) rfl rfl (by omega) (by omega) (fun v145 e146 => ?_)
                        show x_seq _ _ _ _ ([.inr (.inr (8, 1)), .inl x1, .inl x2, .inl ylp25_3, .inl v145], [], mh h (x_u2 F 8 0 sjn1_0))
                        refine q_goto ?_
                        exact (ih27 ylp25_3 v145 (by omega) (by omega)).up (by omega)
                      · skip
                        refine q_iload rfl ?_
                        refine v_iconst (k := 1) rfl (fun v147 e148 => ?_)
                        refine v_bin (fun v149 => ?_)
                        refine q_goto ?_
                        refine xR.blk c137_126 ?_
                        refine q_istore (Nat.le_of_ble_eq_true rfl) ?_
                        show x_seq _ _ _ _ ([.inr (.inr (8, 1)), .inl x1, .inl x2, .inl v149, .inl ylp25_4], [], mh h (x_u2 F 8 0 sjn1_0))
                        refine v_iinc (k := 1) rfl rfl (by omega) (by omega) (fun v151 e152 => ?_)
                        show x_seq _ _ _ _ ([.inr (.inr (8, 1)), .inl x1, .inl x2, .inl v149, .inl v151], [], mh h (x_u2 F 8 0 sjn1_0))
                        refine q_goto ?_
                        exact (ih27 v149 v151 (by omega) (by omega)).up (by omega)
              exact (lp25 13 ylp17_3 v23 (by omega) (by omega)).up (by omega)
            · skip
              refine q_iload rfl ?_
              refine v_if_ne (fun d153 => ?_) (fun d153 => ?_)
              · skip
                refine xR.blk c137_81 ?_
                refine q_iload rfl ?_
                refine q_goto ?_
                refine xR.blk c137_82 ?_
                refine q_istore (Nat.le_of_ble_eq_true rfl) ?_
                show x_seq _ _ _ _ ([.inr (.inr (8, 1)), .inl x1, .inl x2, .inl ylp17_3, .inl ylp17_4], [], mh h (x_u2 F 8 0 sjn1_0))
                refine v_iinc (k := 1) rfl rfl (by omega) (by omega) (fun v154 e155 => ?_)
                show x_seq _ _ _ _ ([.inr (.inr (8, 1)), .inl x1, .inl x2, .inl ylp17_3, .inl v154], [], mh h (x_u2 F 8 0 sjn1_0))
                refine q_goto ?_
                exact (ih19 ylp17_3 v154 (by omega) (by omega)).up (by omega)
              · skip
                refine q_aload rfl (by decide) ?_
                refine m_gfr S (n := 9) (by decide) ?_
                refine v_iconst (k := 3) rfl (fun v156 e157 => ?_)
                refine q_iload rfl ?_
                refine v_imul' e157 (by omega) (fun v158 e159 => ?_)
                refine q_iload rfl ?_
                refine v_iadd (by omega) (fun v160 e161 => ?_)
                refine m_ald (k := 19) (n := 9) S (by decide) (by omega) (by omega) ?_
                have e162 : -1 ≤ (F 38 v160.toNatClampNeg).toInt ∧ (F 38 v160.toNatClampNeg).toInt ≤ 71 := M.rg (lo := -1) (hi := 71) (by decide) _
                show x_seq _ _ _ _ ([.inr (.inr (8, 1)), .inl x1, .inl x2, .inl ylp17_3, .inl ylp17_4], [.inl (F 38 v160.toNatClampNeg)], mh h (x_u2 F 8 0 sjn1_0))
                refine v_if_ge (fun d163 => ?_) (fun d163 => ?_)
                · skip
                  refine xR.blk c137_81 ?_
                  refine q_iload rfl ?_
                  refine q_goto ?_
                  refine xR.blk c137_82 ?_
                  refine q_istore (Nat.le_of_ble_eq_true rfl) ?_
                  show x_seq _ _ _ _ ([.inr (.inr (8, 1)), .inl x1, .inl x2, .inl ylp17_3, .inl ylp17_4], [], mh h (x_u2 F 8 0 sjn1_0))
                  refine v_iinc (k := 1) rfl rfl (by omega) (by omega) (fun v164 e165 => ?_)
                  show x_seq _ _ _ _ ([.inr (.inr (8, 1)), .inl x1, .inl x2, .inl ylp17_3, .inl v164], [], mh h (x_u2 F 8 0 sjn1_0))
                  refine q_goto ?_
                  exact (ih19 ylp17_3 v164 (by omega) (by omega)).up (by omega)
                · skip
                  refine q_iload rfl ?_
                  refine v_iconst (k := 1) rfl (fun v166 e167 => ?_)
                  refine v_bin (fun v168 => ?_)
                  refine q_goto ?_
                  refine xR.blk c137_82 ?_
                  refine q_istore (Nat.le_of_ble_eq_true rfl) ?_
                  show x_seq _ _ _ _ ([.inr (.inr (8, 1)), .inl x1, .inl x2, .inl v168, .inl ylp17_4], [], mh h (x_u2 F 8 0 sjn1_0))
                  refine v_iinc (k := 1) rfl rfl (by omega) (by omega) (fun v170 e171 => ?_)
                  show x_seq _ _ _ _ ([.inr (.inr (8, 1)), .inl x1, .inl x2, .inl v168, .inl v170], [], mh h (x_u2 F 8 0 sjn1_0))
                  refine q_goto ?_
                  exact (ih19 v168 v170 (by omega) (by omega)).up (by omega)
        exact (lp17 4 v13 v15 (by omega) (by omega)).up (by omega)
      · skip
        refine q_aload rfl (by decide) ?_
        refine m_gfr S (n := 3) (by decide) ?_
        refine q_iload rfl ?_
        refine m_ald (k := 27) (n := 3) S (by decide) (by omega) (by omega) ?_
        have e172 : 0 ≤ (F 45 x1.toNatClampNeg).toInt ∧ (F 45 x1.toNatClampNeg).toInt ≤ 72 := M.rg (lo := 0) (hi := 72) (by decide) _
        show x_seq _ _ _ _ ([.inr (.inr (8, 1)), .inl x1, .inl x2, .inr (.inr (0, 0)), .inr (.inr (0, 0))], [.inl (F 45 x1.toNatClampNeg)], mh h (x_u2 F 8 0 sjn1_0))
        refine q_goto ?_
        refine xR.blk c137_47 ?_
        refine q_istore (Nat.le_of_ble_eq_true rfl) ?_
        show x_seq _ _ _ _ ([.inr (.inr (8, 1)), .inl x1, .inl x2, .inl (F 45 x1.toNatClampNeg), .inr (.inr (0, 0))], [], mh h (x_u2 F 8 0 sjn1_0))
        refine v_iconst (k := 0) rfl (fun v173 e174 => ?_)
        refine q_istore (Nat.le_of_ble_eq_true rfl) ?_
        show x_seq _ _ _ _ ([.inr (.inr (8, 1)), .inl x1, .inl x2, .inl (F 45 x1.toNatClampNeg), .inl v173], [], mh h (x_u2 F 8 0 sjn1_0))
        refine q_goto ?_
        have lp175 : ∀ (m176 : Nat) (ylp175_3 : Int32) (ylp175_4 : Int32), (0 ≤ ylp175_4.toInt ∧ ylp175_4.toInt ≤ 3) → (3 - ylp175_4.toInt).toNat < m176 → xR (3000 + 20 * m176) 137 51 ([.inr (.inr (8, 1)), .inl x1, .inl x2, .inl ylp175_3, .inl ylp175_4], [], mh h (x_u2 F 8 0 sjn1_0)) Z := by
          intro m176
          induction m176 with
          | zero => intro ylp175_3 ylp175_4 klp175_0 kmlp175; exact absurd kmlp175 (by omega)
          | succ m176 ih177 =>
            intro ylp175_3 ylp175_4 klp175_0 kmlp175
            rw [show 3000 + 20 * (m176 + 1) = 3000 + 20 * m176 + 20 by omega]
            refine xR.blk c137_51 ?_
            refine q_iload rfl ?_
            refine v_iconst (k := 3) rfl (fun v178 e179 => ?_)
            refine v_icmp_ge (fun d180 => ?_) (fun d180 => ?_)
            · skip
              refine xR.blk c137_89 ?_
              refine v_iconst (k := 0) rfl (fun v181 e182 => ?_)
              refine q_istore (Nat.le_of_ble_eq_true rfl) ?_
              show x_seq _ _ _ _ ([.inr (.inr (8, 1)), .inl x1, .inl x2, .inl ylp175_3, .inl v181], [], mh h (x_u2 F 8 0 sjn1_0))
              refine q_goto ?_
              have lp183 : ∀ (m184 : Nat) (ylp183_3 : Int32) (ylp183_4 : Int32), (0 ≤ ylp183_4.toInt ∧ ylp183_4.toInt ≤ 12) → (12 - ylp183_4.toInt).toNat < m184 → xR (2500 + 20 * m184) 137 92 ([.inr (.inr (8, 1)), .inl x1, .inl x2, .inl ylp183_3, .inl ylp183_4], [], mh h (x_u2 F 8 0 sjn1_0)) Z := by
                intro m184
                induction m184 with
                | zero => intro ylp183_3 ylp183_4 klp183_0 kmlp183; exact absurd kmlp183 (by omega)
                | succ m184 ih185 =>
                  intro ylp183_3 ylp183_4 klp183_0 kmlp183
                  rw [show 2500 + 20 * (m184 + 1) = 2500 + 20 * m184 + 20 by omega]
                  refine xR.blk c137_92 ?_
                  refine q_iload rfl ?_
                  refine v_iconst (k := 12) rfl (fun v186 e187 => ?_)
                  refine v_icmp_ge (fun d188 => ?_) (fun d188 => ?_)
                  · skip
                    refine xR.blk c137_133 ?_
                    refine v_iconst (k := 0) rfl (fun v189 e190 => ?_)
                    refine q_istore (Nat.le_of_ble_eq_true rfl) ?_
                    show x_seq _ _ _ _ ([.inr (.inr (8, 1)), .inl x1, .inl x2, .inl ylp183_3, .inl v189], [], mh h (x_u2 F 8 0 sjn1_0))
                    refine q_goto ?_
                    have lp191 : ∀ (m192 : Nat) (ylp191_3 : Int32) (ylp191_4 : Int32), (0 ≤ ylp191_4.toInt ∧ ylp191_4.toInt ≤ 5) → (5 - ylp191_4.toInt).toNat < m192 → xR (2000 + 20 * m192) 137 136 ([.inr (.inr (8, 1)), .inl x1, .inl x2, .inl ylp191_3, .inl ylp191_4], [], mh h (x_u2 F 8 0 sjn1_0)) Z := by
                      intro m192
                      induction m192 with
                      | zero => intro ylp191_3 ylp191_4 klp191_0 kmlp191; exact absurd kmlp191 (by omega)
                      | succ m192 ih193 =>
                        intro ylp191_3 ylp191_4 klp191_0 kmlp191
                        rw [show 2000 + 20 * (m192 + 1) = 2000 + 20 * m192 + 20 by omega]
                        refine xR.blk c137_136 ?_
                        refine q_iload rfl ?_
                        refine v_iconst (k := 5) rfl (fun v194 e195 => ?_)
                        refine v_icmp_ge (fun d196 => ?_) (fun d196 => ?_)
                        · skip
                          refine xR.blk c137_175 ?_
                          refine v_iconst (k := 0) rfl (fun v197 e198 => ?_)
                          refine q_istore (Nat.le_of_ble_eq_true rfl) ?_
                          show x_seq _ _ _ _ ([.inr (.inr (8, 1)), .inl x1, .inl x2, .inl ylp191_3, .inl v197], [], mh h (x_u2 F 8 0 sjn1_0))
                          refine q_goto ?_
                          have lp199 : ∀ (m200 : Nat) (ylp199_3 : Int32) (ylp199_4 : Int32), (0 ≤ ylp199_4.toInt ∧ ylp199_4.toInt ≤ 16) → (16 - ylp199_4.toInt).toNat < m200 → xR (1000 + 30 * m200) 137 178 ([.inr (.inr (8, 1)), .inl x1, .inl x2, .inl ylp199_3, .inl ylp199_4], [], mh h (x_u2 F 8 0 sjn1_0)) Z := by
                            intro m200
                            induction m200 with
                            | zero => intro ylp199_3 ylp199_4 klp199_0 kmlp199; exact absurd kmlp199 (by omega)
                            | succ m200 ih201 =>
                              intro ylp199_3 ylp199_4 klp199_0 kmlp199
                              rw [show 1000 + 30 * (m200 + 1) = 1000 + 30 * m200 + 30 by omega]
                              refine xR.blk c137_178 ?_
                              refine q_iload rfl ?_
                              refine q_aload rfl (by decide) ?_
                              refine m_gfi S ?_
                              have e202 : 0 ≤ (F 8 20).toInt ∧ (F 8 20).toInt ≤ 16 := M.fl (lo := 0) (hi := 16) (by decide)
                              show x_seq _ _ _ _ ([.inr (.inr (8, 1)), .inl x1, .inl x2, .inl ylp199_3, .inl ylp199_4], [.inl (F 8 20), .inl ylp199_4], mh h (x_u2 F 8 0 sjn1_0))
                              refine v_icmp_ge (fun d203 => ?_) (fun d203 => ?_)
                              · skip
                                refine xR.blk c137_248 ?_
                                refine v_iconst (k := 24) rfl (fun v204 e205 => ?_)
                                refine q_iload rfl ?_
                                refine v_imul' e205 (by omega) (fun v206 e207 => ?_)
                                refine q_istore (Nat.le_of_ble_eq_true rfl) ?_
                                show x_seq _ _ _ _ ([.inr (.inr (8, 1)), .inl x1, .inl x2, .inl ylp199_3, .inl v206], [], mh h (x_u2 F 8 0 sjn1_0))
                                refine q_goto ?_
                                have lp208 : ∀ (m209 : Nat) (ylp208_3 : Int32) (ylp208_4 : Int32), (24 * x1.toInt ≤ ylp208_4.toInt ∧ ylp208_4.toInt ≤ 24 * x1.toInt + 24) → (24 * x1.toInt + 24 - ylp208_4.toInt).toNat < m209 → xR (20 + 20 * m209) 137 254 ([.inr (.inr (8, 1)), .inl x1, .inl x2, .inl ylp208_3, .inl ylp208_4], [], mh h (x_u2 F 8 0 sjn1_0)) Z := by
                                  intro m209
                                  induction m209 with
                                  | zero => intro ylp208_3 ylp208_4 klp208_0 kmlp208; exact absurd kmlp208 (by omega)
                                  | succ m209 ih210 =>
                                    intro ylp208_3 ylp208_4 klp208_0 kmlp208
                                    rw [show 20 + 20 * (m209 + 1) = 20 + 20 * m209 + 20 by omega]
                                    refine xR.blk c137_254 ?_
                                    refine q_iload rfl ?_
                                    refine v_iconst (k := 24) rfl (fun v211 e212 => ?_)
                                    refine q_iload rfl ?_
                                    refine v_imul' e212 (by omega) (fun v213 e214 => ?_)
                                    refine v_iconst (k := 24) rfl (fun v215 e216 => ?_)
                                    refine v_iadd (by omega) (fun v217 e218 => ?_)
                                    refine v_icmp_ge (fun d219 => ?_) (fun d219 => ?_)
                                    · skip
                                      refine xR.blk c137_295 ?_
                                      refine q_iload rfl ?_
                                      exact q_iret (hZ _ _ ⟨(MX.putf (k := 0) (v := sjn1_0) M (fun lo hi hm => by simp only [mfl, List.mem_cons, Prod.mk.injEq, List.not_mem_nil, or_false] at hm; omega)), ⟨_, rfl⟩⟩)
                                    · skip
                                      refine q_iload rfl ?_
                                      refine v_iconst (k := 4) rfl (fun v220 e221 => ?_)
                                      refine v_icmp_ne (fun d222 => ?_) (fun d222 => ?_)
                                      · skip
                                        refine xR.blk c137_287 ?_
                                        refine q_iload rfl ?_
                                        refine q_goto ?_
                                        refine xR.blk c137_288 ?_
                                        refine q_istore (Nat.le_of_ble_eq_true rfl) ?_
                                        show x_seq _ _ _ _ ([.inr (.inr (8, 1)), .inl x1, .inl x2, .inl ylp208_3, .inl ylp208_4], [], mh h (x_u2 F 8 0 sjn1_0))
                                        refine v_iinc (k := 1) rfl rfl (by omega) (by omega) (fun v223 e224 => ?_)
                                        show x_seq _ _ _ _ ([.inr (.inr (8, 1)), .inl x1, .inl x2, .inl ylp208_3, .inl v223], [], mh h (x_u2 F 8 0 sjn1_0))
                                        refine q_goto ?_
                                        exact (ih210 ylp208_3 v223 (by omega) (by omega)).up (by omega)
                                      · skip
                                        refine q_aload rfl (by decide) ?_
                                        refine m_gfr S (n := 72) (by decide) ?_
                                        refine q_iload rfl ?_
                                        refine m_ald (k := 5) (n := 72) S (by decide) (by omega) (by omega) ?_
                                        show x_seq _ _ _ _ ([.inr (.inr (8, 1)), .inl x1, .inl x2, .inl ylp208_3, .inl ylp208_4], [.inl (F 24 ylp208_4.toNatClampNeg)], mh h (x_u2 F 8 0 sjn1_0))
                                        refine v_if_lt (fun d225 => ?_) (fun d225 => ?_)
                                        · skip
                                          refine xR.blk c137_287 ?_
                                          refine q_iload rfl ?_
                                          refine q_goto ?_
                                          refine xR.blk c137_288 ?_
                                          refine q_istore (Nat.le_of_ble_eq_true rfl) ?_
                                          show x_seq _ _ _ _ ([.inr (.inr (8, 1)), .inl x1, .inl x2, .inl ylp208_3, .inl ylp208_4], [], mh h (x_u2 F 8 0 sjn1_0))
                                          refine v_iinc (k := 1) rfl rfl (by omega) (by omega) (fun v226 e227 => ?_)
                                          show x_seq _ _ _ _ ([.inr (.inr (8, 1)), .inl x1, .inl x2, .inl ylp208_3, .inl v226], [], mh h (x_u2 F 8 0 sjn1_0))
                                          refine q_goto ?_
                                          exact (ih210 ylp208_3 v226 (by omega) (by omega)).up (by omega)
                                        · skip
                                          refine q_iload rfl ?_
                                          refine v_iconst (k := 1) rfl (fun v228 e229 => ?_)
                                          refine v_bin (fun v230 => ?_)
                                          refine q_goto ?_
                                          refine xR.blk c137_288 ?_
                                          refine q_istore (Nat.le_of_ble_eq_true rfl) ?_
                                          show x_seq _ _ _ _ ([.inr (.inr (8, 1)), .inl x1, .inl x2, .inl v230, .inl ylp208_4], [], mh h (x_u2 F 8 0 sjn1_0))
                                          refine v_iinc (k := 1) rfl rfl (by omega) (by omega) (fun v232 e233 => ?_)
                                          show x_seq _ _ _ _ ([.inr (.inr (8, 1)), .inl x1, .inl x2, .inl v230, .inl v232], [], mh h (x_u2 F 8 0 sjn1_0))
                                          refine q_goto ?_
                                          exact (ih210 v230 v232 (by omega) (by omega)).up (by omega)
                                exact (lp208 25 ylp199_3 v206 (by omega) (by omega)).up (by omega)
                              · skip
                                refine q_iload rfl ?_
                                refine v_iconst (k := 3) rfl (fun v234 e235 => ?_)
                                refine v_icmp_ne (fun d236 => ?_) (fun d236 => ?_)
                                · skip
                                  refine xR.blk c137_240 ?_
                                  refine q_iload rfl ?_
                                  refine q_goto ?_
                                  refine xR.blk c137_241 ?_
                                  refine q_istore (Nat.le_of_ble_eq_true rfl) ?_
                                  show x_seq _ _ _ _ ([.inr (.inr (8, 1)), .inl x1, .inl x2, .inl ylp199_3, .inl ylp199_4], [], mh h (x_u2 F 8 0 sjn1_0))
                                  refine v_iinc (k := 1) rfl rfl (by omega) (by omega) (fun v237 e238 => ?_)
                                  show x_seq _ _ _ _ ([.inr (.inr (8, 1)), .inl x1, .inl x2, .inl ylp199_3, .inl v237], [], mh h (x_u2 F 8 0 sjn1_0))
                                  refine q_goto ?_
                                  exact (ih201 ylp199_3 v237 (by omega) (by omega)).up (by omega)
                                · skip
                                  refine q_aload rfl (by decide) ?_
                                  refine m_gfr S (n := 16) (by decide) ?_
                                  refine q_iload rfl ?_
                                  refine m_ald (k := 21) (n := 16) S (by decide) (by omega) (by omega) ?_
                                  show x_seq _ _ _ _ ([.inr (.inr (8, 1)), .inl x1, .inl x2, .inl ylp199_3, .inl ylp199_4], [.inl (F 39 ylp199_4.toNatClampNeg)], mh h (x_u2 F 8 0 sjn1_0))
                                  refine q_iload rfl ?_
                                  refine v_icmp_eq (fun d239 => ?_) (fun d239 => ?_)
                                  · skip
                                    refine xR.blk c137_214 ?_
                                    refine q_aload rfl (by decide) ?_
                                    refine m_gfr S (n := 16) (by decide) ?_
                                    refine q_iload rfl ?_
                                    refine m_ald (k := 23) (n := 16) S (by decide) (by omega) (by omega) ?_
                                    have e240 : -1 ≤ (F 41 ylp199_4.toNatClampNeg).toInt ∧ (F 41 ylp199_4.toNatClampNeg).toInt ≤ 71 := M.rg (lo := -1) (hi := 71) (by decide) _
                                    show x_seq _ _ _ _ ([.inr (.inr (8, 1)), .inl x1, .inl x2, .inl ylp199_3, .inl ylp199_4], [.inl (F 41 ylp199_4.toNatClampNeg)], mh h (x_u2 F 8 0 sjn1_0))
                                    refine v_if_ge (fun d241 => ?_) (fun d241 => ?_)
                                    · skip
                                      refine xR.blk c137_240 ?_
                                      refine q_iload rfl ?_
                                      refine q_goto ?_
                                      refine xR.blk c137_241 ?_
                                      refine q_istore (Nat.le_of_ble_eq_true rfl) ?_
                                      show x_seq _ _ _ _ ([.inr (.inr (8, 1)), .inl x1, .inl x2, .inl ylp199_3, .inl ylp199_4], [], mh h (x_u2 F 8 0 sjn1_0))
                                      refine v_iinc (k := 1) rfl rfl (by omega) (by omega) (fun v242 e243 => ?_)
                                      show x_seq _ _ _ _ ([.inr (.inr (8, 1)), .inl x1, .inl x2, .inl ylp199_3, .inl v242], [], mh h (x_u2 F 8 0 sjn1_0))
                                      refine q_goto ?_
                                      exact (ih201 ylp199_3 v242 (by omega) (by omega)).up (by omega)
                                    · skip
                                      refine q_aload rfl (by decide) ?_
                                      refine m_gfr S (n := 16) (by decide) ?_
                                      refine q_iload rfl ?_
                                      refine m_ald (k := 24) (n := 16) S (by decide) (by omega) (by omega) ?_
                                      have e244 : 0 ≤ (F 42 ylp199_4.toNatClampNeg).toInt ∧ (F 42 ylp199_4.toNatClampNeg).toInt ≤ 1 := M.rg (lo := 0) (hi := 1) (by decide) _
                                      show x_seq _ _ _ _ ([.inr (.inr (8, 1)), .inl x1, .inl x2, .inl ylp199_3, .inl ylp199_4], [.inl (F 42 ylp199_4.toNatClampNeg)], mh h (x_u2 F 8 0 sjn1_0))
                                      refine v_if_ne (fun d245 => ?_) (fun d245 => ?_)
                                      · skip
                                        refine xR.blk c137_240 ?_
                                        refine q_iload rfl ?_
                                        refine q_goto ?_
                                        refine xR.blk c137_241 ?_
                                        refine q_istore (Nat.le_of_ble_eq_true rfl) ?_
                                        show x_seq _ _ _ _ ([.inr (.inr (8, 1)), .inl x1, .inl x2, .inl ylp199_3, .inl ylp199_4], [], mh h (x_u2 F 8 0 sjn1_0))
                                        refine v_iinc (k := 1) rfl rfl (by omega) (by omega) (fun v246 e247 => ?_)
                                        show x_seq _ _ _ _ ([.inr (.inr (8, 1)), .inl x1, .inl x2, .inl ylp199_3, .inl v246], [], mh h (x_u2 F 8 0 sjn1_0))
                                        refine q_goto ?_
                                        exact (ih201 ylp199_3 v246 (by omega) (by omega)).up (by omega)
                                      · skip
                                        refine q_iload rfl ?_
                                        refine v_iconst (k := 1) rfl (fun v248 e249 => ?_)
                                        refine v_bin (fun v250 => ?_)
                                        refine q_goto ?_
                                        refine xR.blk c137_241 ?_
                                        refine q_istore (Nat.le_of_ble_eq_true rfl) ?_
                                        show x_seq _ _ _ _ ([.inr (.inr (8, 1)), .inl x1, .inl x2, .inl v250, .inl ylp199_4], [], mh h (x_u2 F 8 0 sjn1_0))
                                        refine v_iinc (k := 1) rfl rfl (by omega) (by omega) (fun v252 e253 => ?_)
                                        show x_seq _ _ _ _ ([.inr (.inr (8, 1)), .inl x1, .inl x2, .inl v250, .inl v252], [], mh h (x_u2 F 8 0 sjn1_0))
                                        refine q_goto ?_
                                        exact (ih201 v250 v252 (by omega) (by omega)).up (by omega)
                                  · skip
                                    refine q_aload rfl (by decide) ?_
                                    refine m_gfr S (n := 16) (by decide) ?_
                                    refine q_iload rfl ?_
                                    refine m_ald (k := 22) (n := 16) S (by decide) (by omega) (by omega) ?_
                                    show x_seq _ _ _ _ ([.inr (.inr (8, 1)), .inl x1, .inl x2, .inl ylp199_3, .inl ylp199_4], [.inl (F 40 ylp199_4.toNatClampNeg)], mh h (x_u2 F 8 0 sjn1_0))
                                    refine q_iload rfl ?_
                                    refine v_icmp_ne (fun d254 => ?_) (fun d254 => ?_)
                                    · skip
                                      refine xR.blk c137_240 ?_
                                      refine q_iload rfl ?_
                                      refine q_goto ?_
                                      refine xR.blk c137_241 ?_
                                      refine q_istore (Nat.le_of_ble_eq_true rfl) ?_
                                      show x_seq _ _ _ _ ([.inr (.inr (8, 1)), .inl x1, .inl x2, .inl ylp199_3, .inl ylp199_4], [], mh h (x_u2 F 8 0 sjn1_0))
                                      refine v_iinc (k := 1) rfl rfl (by omega) (by omega) (fun v255 e256 => ?_)
                                      show x_seq _ _ _ _ ([.inr (.inr (8, 1)), .inl x1, .inl x2, .inl ylp199_3, .inl v255], [], mh h (x_u2 F 8 0 sjn1_0))
                                      refine q_goto ?_
                                      exact (ih201 ylp199_3 v255 (by omega) (by omega)).up (by omega)
                                    · skip
                                      refine q_goto ?_
                                      refine xR.blk c137_214 ?_
                                      refine q_aload rfl (by decide) ?_
                                      refine m_gfr S (n := 16) (by decide) ?_
                                      refine q_iload rfl ?_
                                      refine m_ald (k := 23) (n := 16) S (by decide) (by omega) (by omega) ?_
                                      have e257 : -1 ≤ (F 41 ylp199_4.toNatClampNeg).toInt ∧ (F 41 ylp199_4.toNatClampNeg).toInt ≤ 71 := M.rg (lo := -1) (hi := 71) (by decide) _
                                      show x_seq _ _ _ _ ([.inr (.inr (8, 1)), .inl x1, .inl x2, .inl ylp199_3, .inl ylp199_4], [.inl (F 41 ylp199_4.toNatClampNeg)], mh h (x_u2 F 8 0 sjn1_0))
                                      refine v_if_ge (fun d258 => ?_) (fun d258 => ?_)
                                      · skip
                                        refine xR.blk c137_240 ?_
                                        refine q_iload rfl ?_
                                        refine q_goto ?_
                                        refine xR.blk c137_241 ?_
                                        refine q_istore (Nat.le_of_ble_eq_true rfl) ?_
                                        show x_seq _ _ _ _ ([.inr (.inr (8, 1)), .inl x1, .inl x2, .inl ylp199_3, .inl ylp199_4], [], mh h (x_u2 F 8 0 sjn1_0))
                                        refine v_iinc (k := 1) rfl rfl (by omega) (by omega) (fun v259 e260 => ?_)
                                        show x_seq _ _ _ _ ([.inr (.inr (8, 1)), .inl x1, .inl x2, .inl ylp199_3, .inl v259], [], mh h (x_u2 F 8 0 sjn1_0))
                                        refine q_goto ?_
                                        exact (ih201 ylp199_3 v259 (by omega) (by omega)).up (by omega)
                                      · skip
                                        refine q_aload rfl (by decide) ?_
                                        refine m_gfr S (n := 16) (by decide) ?_
                                        refine q_iload rfl ?_
                                        refine m_ald (k := 24) (n := 16) S (by decide) (by omega) (by omega) ?_
                                        have e261 : 0 ≤ (F 42 ylp199_4.toNatClampNeg).toInt ∧ (F 42 ylp199_4.toNatClampNeg).toInt ≤ 1 := M.rg (lo := 0) (hi := 1) (by decide) _
                                        show x_seq _ _ _ _ ([.inr (.inr (8, 1)), .inl x1, .inl x2, .inl ylp199_3, .inl ylp199_4], [.inl (F 42 ylp199_4.toNatClampNeg)], mh h (x_u2 F 8 0 sjn1_0))
                                        refine v_if_ne (fun d262 => ?_) (fun d262 => ?_)
                                        · skip
                                          refine xR.blk c137_240 ?_
                                          refine q_iload rfl ?_
                                          refine q_goto ?_
                                          refine xR.blk c137_241 ?_
                                          refine q_istore (Nat.le_of_ble_eq_true rfl) ?_
                                          show x_seq _ _ _ _ ([.inr (.inr (8, 1)), .inl x1, .inl x2, .inl ylp199_3, .inl ylp199_4], [], mh h (x_u2 F 8 0 sjn1_0))
                                          refine v_iinc (k := 1) rfl rfl (by omega) (by omega) (fun v263 e264 => ?_)
                                          show x_seq _ _ _ _ ([.inr (.inr (8, 1)), .inl x1, .inl x2, .inl ylp199_3, .inl v263], [], mh h (x_u2 F 8 0 sjn1_0))
                                          refine q_goto ?_
                                          exact (ih201 ylp199_3 v263 (by omega) (by omega)).up (by omega)
                                        · skip
                                          refine q_iload rfl ?_
                                          refine v_iconst (k := 1) rfl (fun v265 e266 => ?_)
                                          refine v_bin (fun v267 => ?_)
                                          refine q_goto ?_
                                          refine xR.blk c137_241 ?_
                                          refine q_istore (Nat.le_of_ble_eq_true rfl) ?_
                                          show x_seq _ _ _ _ ([.inr (.inr (8, 1)), .inl x1, .inl x2, .inl v267, .inl ylp199_4], [], mh h (x_u2 F 8 0 sjn1_0))
                                          refine v_iinc (k := 1) rfl rfl (by omega) (by omega) (fun v269 e270 => ?_)
                                          show x_seq _ _ _ _ ([.inr (.inr (8, 1)), .inl x1, .inl x2, .inl v267, .inl v269], [], mh h (x_u2 F 8 0 sjn1_0))
                                          refine q_goto ?_
                                          exact (ih201 v267 v269 (by omega) (by omega)).up (by omega)
                          exact (lp199 17 ylp191_3 v197 (by omega) (by omega)).up (by omega)
                        · skip
                          refine q_iload rfl ?_
                          refine v_iconst (k := 2) rfl (fun v271 e272 => ?_)
                          refine v_icmp_ne (fun d273 => ?_) (fun d273 => ?_)
                          · skip
                            refine xR.blk c137_167 ?_
                            refine q_iload rfl ?_
                            refine q_goto ?_
                            refine xR.blk c137_168 ?_
                            refine q_istore (Nat.le_of_ble_eq_true rfl) ?_
                            show x_seq _ _ _ _ ([.inr (.inr (8, 1)), .inl x1, .inl x2, .inl ylp191_3, .inl ylp191_4], [], mh h (x_u2 F 8 0 sjn1_0))
                            refine v_iinc (k := 1) rfl rfl (by omega) (by omega) (fun v274 e275 => ?_)
                            show x_seq _ _ _ _ ([.inr (.inr (8, 1)), .inl x1, .inl x2, .inl ylp191_3, .inl v274], [], mh h (x_u2 F 8 0 sjn1_0))
                            refine q_goto ?_
                            exact (ih193 ylp191_3 v274 (by omega) (by omega)).up (by omega)
                          · skip
                            refine q_aload rfl (by decide) ?_
                            refine m_gfr S (n := 15) (by decide) ?_
                            refine v_iconst (k := 5) rfl (fun v276 e277 => ?_)
                            refine q_iload rfl ?_
                            refine v_imul' e277 (by omega) (fun v278 e279 => ?_)
                            refine q_iload rfl ?_
                            refine v_iadd (by omega) (fun v280 e281 => ?_)
                            refine m_ald (k := 18) (n := 15) S (by decide) (by omega) (by omega) ?_
                            show x_seq _ _ _ _ ([.inr (.inr (8, 1)), .inl x1, .inl x2, .inl ylp191_3, .inl ylp191_4], [.inl (F 37 v280.toNatClampNeg)], mh h (x_u2 F 8 0 sjn1_0))
                            refine v_if_ge (fun d282 => ?_) (fun d282 => ?_)
                            · skip
                              refine xR.blk c137_167 ?_
                              refine q_iload rfl ?_
                              refine q_goto ?_
                              refine xR.blk c137_168 ?_
                              refine q_istore (Nat.le_of_ble_eq_true rfl) ?_
                              show x_seq _ _ _ _ ([.inr (.inr (8, 1)), .inl x1, .inl x2, .inl ylp191_3, .inl ylp191_4], [], mh h (x_u2 F 8 0 sjn1_0))
                              refine v_iinc (k := 1) rfl rfl (by omega) (by omega) (fun v283 e284 => ?_)
                              show x_seq _ _ _ _ ([.inr (.inr (8, 1)), .inl x1, .inl x2, .inl ylp191_3, .inl v283], [], mh h (x_u2 F 8 0 sjn1_0))
                              refine q_goto ?_
                              exact (ih193 ylp191_3 v283 (by omega) (by omega)).up (by omega)
                            · skip
                              refine q_iload rfl ?_
                              refine v_iconst (k := 1) rfl (fun v285 e286 => ?_)
                              refine v_bin (fun v287 => ?_)
                              refine q_goto ?_
                              refine xR.blk c137_168 ?_
                              refine q_istore (Nat.le_of_ble_eq_true rfl) ?_
                              show x_seq _ _ _ _ ([.inr (.inr (8, 1)), .inl x1, .inl x2, .inl v287, .inl ylp191_4], [], mh h (x_u2 F 8 0 sjn1_0))
                              refine v_iinc (k := 1) rfl rfl (by omega) (by omega) (fun v289 e290 => ?_)
                              show x_seq _ _ _ _ ([.inr (.inr (8, 1)), .inl x1, .inl x2, .inl v287, .inl v289], [], mh h (x_u2 F 8 0 sjn1_0))
                              refine q_goto ?_
                              exact (ih193 v287 v289 (by omega) (by omega)).up (by omega)
                    exact (lp191 6 ylp183_3 v189 (by omega) (by omega)).up (by omega)
                  · skip
                    refine q_iload rfl ?_
                    refine v_iconst (k := 1) rfl (fun v291 e292 => ?_)
                    refine v_icmp_ne (fun d293 => ?_) (fun d293 => ?_)
                    · skip
                      refine xR.blk c137_125 ?_
                      refine q_iload rfl ?_
                      refine q_goto ?_
                      refine xR.blk c137_126 ?_
                      refine q_istore (Nat.le_of_ble_eq_true rfl) ?_
                      show x_seq _ _ _ _ ([.inr (.inr (8, 1)), .inl x1, .inl x2, .inl ylp183_3, .inl ylp183_4], [], mh h (x_u2 F 8 0 sjn1_0))
                      refine v_iinc (k := 1) rfl rfl (by omega) (by omega) (fun v294 e295 => ?_)
                      show x_seq _ _ _ _ ([.inr (.inr (8, 1)), .inl x1, .inl x2, .inl ylp183_3, .inl v294], [], mh h (x_u2 F 8 0 sjn1_0))
                      refine q_goto ?_
                      exact (ih185 ylp183_3 v294 (by omega) (by omega)).up (by omega)
                    · skip
                      refine q_aload rfl (by decide) ?_
                      refine m_gfr S (n := 36) (by decide) ?_
                      refine v_iconst (k := 12) rfl (fun v296 e297 => ?_)
                      refine q_iload rfl ?_
                      refine v_imul' e297 (by omega) (fun v298 e299 => ?_)
                      refine q_iload rfl ?_
                      refine v_iadd (by omega) (fun v300 e301 => ?_)
                      refine m_ald (k := 17) (n := 36) S (by decide) (by omega) (by omega) ?_
                      show x_seq _ _ _ _ ([.inr (.inr (8, 1)), .inl x1, .inl x2, .inl ylp183_3, .inl ylp183_4], [.inl (F 36 v300.toNatClampNeg)], mh h (x_u2 F 8 0 sjn1_0))
                      refine v_if_ge (fun d302 => ?_) (fun d302 => ?_)
                      · skip
                        refine xR.blk c137_125 ?_
                        refine q_iload rfl ?_
                        refine q_goto ?_
                        refine xR.blk c137_126 ?_
                        refine q_istore (Nat.le_of_ble_eq_true rfl) ?_
                        show x_seq _ _ _ _ ([.inr (.inr (8, 1)), .inl x1, .inl x2, .inl ylp183_3, .inl ylp183_4], [], mh h (x_u2 F 8 0 sjn1_0))
                        refine v_iinc (k := 1) rfl rfl (by omega) (by omega) (fun v303 e304 => ?_)
                        show x_seq _ _ _ _ ([.inr (.inr (8, 1)), .inl x1, .inl x2, .inl ylp183_3, .inl v303], [], mh h (x_u2 F 8 0 sjn1_0))
                        refine q_goto ?_
                        exact (ih185 ylp183_3 v303 (by omega) (by omega)).up (by omega)
                      · skip
                        refine q_iload rfl ?_
                        refine v_iconst (k := 1) rfl (fun v305 e306 => ?_)
                        refine v_bin (fun v307 => ?_)
                        refine q_goto ?_
                        refine xR.blk c137_126 ?_
                        refine q_istore (Nat.le_of_ble_eq_true rfl) ?_
                        show x_seq _ _ _ _ ([.inr (.inr (8, 1)), .inl x1, .inl x2, .inl v307, .inl ylp183_4], [], mh h (x_u2 F 8 0 sjn1_0))
                        refine v_iinc (k := 1) rfl rfl (by omega) (by omega) (fun v309 e310 => ?_)
                        show x_seq _ _ _ _ ([.inr (.inr (8, 1)), .inl x1, .inl x2, .inl v307, .inl v309], [], mh h (x_u2 F 8 0 sjn1_0))
                        refine q_goto ?_
                        exact (ih185 v307 v309 (by omega) (by omega)).up (by omega)
              exact (lp183 13 ylp175_3 v181 (by omega) (by omega)).up (by omega)
            · skip
              refine q_iload rfl ?_
              refine v_if_ne (fun d311 => ?_) (fun d311 => ?_)
              · skip
                refine xR.blk c137_81 ?_
                refine q_iload rfl ?_
                refine q_goto ?_
                refine xR.blk c137_82 ?_
                refine q_istore (Nat.le_of_ble_eq_true rfl) ?_
                show x_seq _ _ _ _ ([.inr (.inr (8, 1)), .inl x1, .inl x2, .inl ylp175_3, .inl ylp175_4], [], mh h (x_u2 F 8 0 sjn1_0))
                refine v_iinc (k := 1) rfl rfl (by omega) (by omega) (fun v312 e313 => ?_)
                show x_seq _ _ _ _ ([.inr (.inr (8, 1)), .inl x1, .inl x2, .inl ylp175_3, .inl v312], [], mh h (x_u2 F 8 0 sjn1_0))
                refine q_goto ?_
                exact (ih177 ylp175_3 v312 (by omega) (by omega)).up (by omega)
              · skip
                refine q_aload rfl (by decide) ?_
                refine m_gfr S (n := 9) (by decide) ?_
                refine v_iconst (k := 3) rfl (fun v314 e315 => ?_)
                refine q_iload rfl ?_
                refine v_imul' e315 (by omega) (fun v316 e317 => ?_)
                refine q_iload rfl ?_
                refine v_iadd (by omega) (fun v318 e319 => ?_)
                refine m_ald (k := 19) (n := 9) S (by decide) (by omega) (by omega) ?_
                have e320 : -1 ≤ (F 38 v318.toNatClampNeg).toInt ∧ (F 38 v318.toNatClampNeg).toInt ≤ 71 := M.rg (lo := -1) (hi := 71) (by decide) _
                show x_seq _ _ _ _ ([.inr (.inr (8, 1)), .inl x1, .inl x2, .inl ylp175_3, .inl ylp175_4], [.inl (F 38 v318.toNatClampNeg)], mh h (x_u2 F 8 0 sjn1_0))
                refine v_if_ge (fun d321 => ?_) (fun d321 => ?_)
                · skip
                  refine xR.blk c137_81 ?_
                  refine q_iload rfl ?_
                  refine q_goto ?_
                  refine xR.blk c137_82 ?_
                  refine q_istore (Nat.le_of_ble_eq_true rfl) ?_
                  show x_seq _ _ _ _ ([.inr (.inr (8, 1)), .inl x1, .inl x2, .inl ylp175_3, .inl ylp175_4], [], mh h (x_u2 F 8 0 sjn1_0))
                  refine v_iinc (k := 1) rfl rfl (by omega) (by omega) (fun v322 e323 => ?_)
                  show x_seq _ _ _ _ ([.inr (.inr (8, 1)), .inl x1, .inl x2, .inl ylp175_3, .inl v322], [], mh h (x_u2 F 8 0 sjn1_0))
                  refine q_goto ?_
                  exact (ih177 ylp175_3 v322 (by omega) (by omega)).up (by omega)
                · skip
                  refine q_iload rfl ?_
                  refine v_iconst (k := 1) rfl (fun v324 e325 => ?_)
                  refine v_bin (fun v326 => ?_)
                  refine q_goto ?_
                  refine xR.blk c137_82 ?_
                  refine q_istore (Nat.le_of_ble_eq_true rfl) ?_
                  show x_seq _ _ _ _ ([.inr (.inr (8, 1)), .inl x1, .inl x2, .inl v326, .inl ylp175_4], [], mh h (x_u2 F 8 0 sjn1_0))
                  refine v_iinc (k := 1) rfl rfl (by omega) (by omega) (fun v328 e329 => ?_)
                  show x_seq _ _ _ _ ([.inr (.inr (8, 1)), .inl x1, .inl x2, .inl v326, .inl v328], [], mh h (x_u2 F 8 0 sjn1_0))
                  refine q_goto ?_
                  exact (ih177 v326 v328 (by omega) (by omega)).up (by omega)
        exact (lp175 4 (F 45 x1.toNatClampNeg) v173 (by omega) (by omega)).up (by omega)
    · skip
      refine v_iconst (k := 0) rfl (fun v330 e331 => ?_)
      exact q_iret (hZ _ _ ⟨(MX.putf (k := 0) (v := sjn1_0) M (fun lo hi hm => by simp only [mfl, List.mem_cons, Prod.mk.injEq, List.not_mem_nil, or_false] at hm; omega)), ⟨_, rfl⟩⟩)
  refine xR.blk c137_0 ?_
  refine q_aload rfl (by decide) ?_
  refine q_iload rfl ?_
  refine v_iconst (k := 0) rfl (fun v332 e333 => ?_)
  refine v_iconst (k := 2) rfl (fun v334 e335 => ?_)
  refine q_call (Nat.le_of_ble_eq_true rfl) (Nat.le_of_ble_eq_true rfl) (by show x_ce h + 0 ≤ 0; rw [S.2.2.1]; exact Nat.le_refl 0) (by show x_so h + 0 ≤ 0; rw [S.2.2.2]; exact Nat.le_refl 0) ?_
  refine xC.up (tv92 (h := x_setc h 0 0) (F := F) (x0 := x1) (x1 := v332) (x2 := v334) S.set  (fun o336 F337 hp => ?_)) (by omega)
  obtain ⟨hF340, ⟨v339, rfl, q338⟩⟩ := hp
  rw [hF340]
  show x_seq _ _ _ _ ([.inr (.inr (8, 1)), .inl x1, .inl x2, .inr (.inr (0, 0)), .inr (.inr (0, 0))], [.inl v339, .inr (.inr (8, 1))], mh h F)
  refine v_if_eq (fun d341 => ?_) (fun d341 => ?_)
  · skip
    refine xR.blk c137_23 ?_
    refine v_iconst (k := 1) rfl (fun v342 e343 => ?_)
    refine q_goto ?_
    exact (jn1 v342 (by omega) (by omega)).up (by omega)
  · skip
    refine q_iload rfl ?_
    refine v_iconst (k := 0) rfl (fun v344 e345 => ?_)
    refine v_iconst (k := 5) rfl (fun v346 e347 => ?_)
    refine q_call (Nat.le_of_ble_eq_true rfl) (Nat.le_of_ble_eq_true rfl) (by show x_ce h + 0 ≤ 0; rw [S.2.2.1]; exact Nat.le_refl 0) (by show x_so h + 0 ≤ 0; rw [S.2.2.2]; exact Nat.le_refl 0) ?_
    refine xC.up (tv92 (h := x_setc h 0 0) (F := F) (x0 := x2) (x1 := v344) (x2 := v346) S.set  (fun o348 F349 hp => ?_)) (by omega)
    obtain ⟨hF352, ⟨v351, rfl, q350⟩⟩ := hp
    rw [hF352]
    show x_seq _ _ _ _ ([.inr (.inr (8, 1)), .inl x1, .inl x2, .inr (.inr (0, 0)), .inr (.inr (0, 0))], [.inl v351, .inr (.inr (8, 1))], mh h F)
    refine v_if_eq (fun d353 => ?_) (fun d353 => ?_)
    · skip
      refine xR.blk c137_23 ?_
      refine v_iconst (k := 1) rfl (fun v354 e355 => ?_)
      refine q_goto ?_
      exact (jn1 v354 (by omega) (by omega)).up (by omega)
    · skip
      refine v_iconst (k := 0) rfl (fun v356 e357 => ?_)
      refine q_goto ?_
      exact (jn1 v356 (by omega) (by omega)).up (by omega)
theorem tv138 {h : xH} {Z : xO → xH → Prop} {F : xF} {x1 : Int32} {x2 : Int32} (S : MS h) (M : MX 72 F) (hZ : ∀ (o : xO) (F' : xF), (MX 72 F') ∧ (∃ v : Int32, o = .inl (some (.inl v))) → Z o (mh h F')) : xC 100 138 [.inr (.inr (8, 1)), .inl x1, .inl x2] (mh h F) Z := by
  refine ⟨rfl, S.2.2.1, S.2.2.2, ?_⟩
  show xR _ 138 0 ([.inr (.inr (8, 1)), .inl x1, .inl x2], [], mh h F) Z
  have jn1 : ∀ (sjn1_0 : Int32), (0 ≤ sjn1_0.toInt ∧ sjn1_0.toInt ≤ 1) → (sjn1_0.toInt = 0 → 0 ≤ x1.toInt ∧ x1.toInt ≤ 2 ∧ 0 ≤ x2.toInt ∧ x2.toInt ≤ 2) → xR (90) 138 24 ([.inr (.inr (8, 1)), .inl x1, .inl x2], [.inl sjn1_0, .inr (.inr (8, 1))], mh h F) Z := by
    intro sjn1_0 kjn1_0 kjn1_1
    refine xR.blk c138_24 ?_
    refine q_callv (j := 1) rfl (by decide) ⟨Nat.le_refl 1, Nat.le_of_eq S.1.symm⟩ (Nat.le_of_ble_eq_true rfl) (Nat.le_of_ble_eq_true rfl) (by show x_ce h + 0 ≤ 0; rw [S.2.2.1]; exact Nat.le_refl 0) (by show x_so h + 0 ≤ 0; rw [S.2.2.2]; exact Nat.le_refl 0) ?_
    refine xC.up (tv91 (h := x_setc h 0 0) (F := F) (x1 := sjn1_0) S.set  (fun o4 F5 hp => ?_)) (by omega)
    obtain ⟨q8, ⟨v7, rfl, q6⟩⟩ := hp
    subst q8
    show x_seq _ _ _ _ ([.inr (.inr (8, 1)), .inl x1, .inl x2], [.inl v7], mh h (x_u2 F 8 0 sjn1_0))
    refine v_if_eq (fun d9 => ?_) (fun d9 => ?_)
    · skip
      refine xR.blk c138_34 ?_
      refine q_aload rfl (by decide) ?_
      refine m_gfr S (n := 9) (by decide) ?_
      refine v_iconst (k := 3) rfl (fun v10 e11 => ?_)
      refine q_iload rfl ?_
      refine v_imul' e11 (by omega) (fun v12 e13 => ?_)
      refine q_iload rfl ?_
      refine v_iadd (by omega) (fun v14 e15 => ?_)
      refine m_ald (k := 26) (n := 9) S (by decide) (by omega) (by omega) ?_
      show x_seq _ _ _ _ ([.inr (.inr (8, 1)), .inl x1, .inl x2], [.inl (F 44 v14.toNatClampNeg)], mh h (x_u2 F 8 0 sjn1_0))
      refine q_goto ?_
      refine xR.blk c138_44 ?_
      exact q_iret (hZ _ _ ⟨(MX.putf (k := 0) (v := sjn1_0) M (fun lo hi hm => by simp only [mfl, List.mem_cons, Prod.mk.injEq, List.not_mem_nil, or_false] at hm; omega)), ⟨_, rfl⟩⟩)
    · skip
      refine v_iconst (k := 0) rfl (fun v16 e17 => ?_)
      refine q_goto ?_
      refine xR.blk c138_44 ?_
      exact q_iret (hZ _ _ ⟨(MX.putf (k := 0) (v := sjn1_0) M (fun lo hi hm => by simp only [mfl, List.mem_cons, Prod.mk.injEq, List.not_mem_nil, or_false] at hm; omega)), ⟨_, rfl⟩⟩)
  refine xR.blk c138_0 ?_
  refine q_aload rfl (by decide) ?_
  refine q_iload rfl ?_
  refine v_iconst (k := 0) rfl (fun v18 e19 => ?_)
  refine v_iconst (k := 2) rfl (fun v20 e21 => ?_)
  refine q_call (Nat.le_of_ble_eq_true rfl) (Nat.le_of_ble_eq_true rfl) (by show x_ce h + 0 ≤ 0; rw [S.2.2.1]; exact Nat.le_refl 0) (by show x_so h + 0 ≤ 0; rw [S.2.2.2]; exact Nat.le_refl 0) ?_
  refine xC.up (tv92 (h := x_setc h 0 0) (F := F) (x0 := x1) (x1 := v18) (x2 := v20) S.set  (fun o22 F23 hp => ?_)) (by omega)
  obtain ⟨hF26, ⟨v25, rfl, q24⟩⟩ := hp
  rw [hF26]
  show x_seq _ _ _ _ ([.inr (.inr (8, 1)), .inl x1, .inl x2], [.inl v25, .inr (.inr (8, 1))], mh h F)
  refine v_if_eq (fun d27 => ?_) (fun d27 => ?_)
  · skip
    refine xR.blk c138_23 ?_
    refine v_iconst (k := 1) rfl (fun v28 e29 => ?_)
    refine q_goto ?_
    exact (jn1 v28 (by omega) (by omega)).up (by omega)
  · skip
    refine q_iload rfl ?_
    refine v_iconst (k := 0) rfl (fun v30 e31 => ?_)
    refine v_iconst (k := 2) rfl (fun v32 e33 => ?_)
    refine q_call (Nat.le_of_ble_eq_true rfl) (Nat.le_of_ble_eq_true rfl) (by show x_ce h + 0 ≤ 0; rw [S.2.2.1]; exact Nat.le_refl 0) (by show x_so h + 0 ≤ 0; rw [S.2.2.2]; exact Nat.le_refl 0) ?_
    refine xC.up (tv92 (h := x_setc h 0 0) (F := F) (x0 := x2) (x1 := v30) (x2 := v32) S.set  (fun o34 F35 hp => ?_)) (by omega)
    obtain ⟨hF38, ⟨v37, rfl, q36⟩⟩ := hp
    rw [hF38]
    show x_seq _ _ _ _ ([.inr (.inr (8, 1)), .inl x1, .inl x2], [.inl v37, .inr (.inr (8, 1))], mh h F)
    refine v_if_eq (fun d39 => ?_) (fun d39 => ?_)
    · skip
      refine xR.blk c138_23 ?_
      refine v_iconst (k := 1) rfl (fun v40 e41 => ?_)
      refine q_goto ?_
      exact (jn1 v40 (by omega) (by omega)).up (by omega)
    · skip
      refine v_iconst (k := 0) rfl (fun v42 e43 => ?_)
      refine q_goto ?_
      exact (jn1 v42 (by omega) (by omega)).up (by omega)
