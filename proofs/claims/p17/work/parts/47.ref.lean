theorem tv97 {h : xH} {Z : xO → xH → Prop} {F : xF} {x1 : Int32} {x2 : Int32} {x3 : Int32} {x4 : Int32} {x5 : Int32} (S : MS h) (M : MX 72 F) (hZ : ∀ (o : xO) (F' : xF), (MX 72 F') ∧ (∃ v : Int32, o = .inl (some (.inl v))) → Z o (mh h F')) : xC 1400000000000 97 [.inr (.inr (8, 1)), .inl x1, .inl x2, .inl x3, .inl x4, .inl x5] (mh h F) Z := by
  refine ⟨rfl, S.2.2.1, S.2.2.2, ?_⟩
  show xR _ 97 0 ([.inr (.inr (8, 1)), .inl x1, .inl x2, .inl x3, .inl x4, .inl x5, .inr (.inr (0, 0)), .inr (.inr (0, 0)), .inr (.inr (0, 0)), .inr (.inr (0, 0)), .inr (.inr (0, 0)), .inr (.inr (0, 0))], [], mh h F) Z
  have jn1 : ∀ (sjn1_0 : Int32), xR (1399999999900) 97 41 ([.inr (.inr (8, 1)), .inl x1, .inl x2, .inl x3, .inl x4, .inl x5, .inr (.inr (0, 0)), .inr (.inr (0, 0)), .inr (.inr (0, 0)), .inr (.inr (0, 0)), .inr (.inr (0, 0)), .inr (.inr (0, 0))], [.inl sjn1_0], mh h F) Z := by
    intro sjn1_0
    have jn4 : ∀ (yjn4_6 : Int32) (sjn4_0 : Int32), (0 ≤ sjn4_0.toInt ∧ sjn4_0.toInt ≤ 1) → (sjn4_0.toInt = 1 → 0 ≤ x1.toInt ∧ x1.toInt ≤ 2 ∧ 0 ≤ x3.toInt ∧ x3.toInt ≤ 2) → xR (1399999999800) 97 94 ([.inr (.inr (8, 1)), .inl x1, .inl x2, .inl x3, .inl x4, .inl x5, .inl yjn4_6, .inr (.inr (0, 0)), .inr (.inr (0, 0)), .inr (.inr (0, 0)), .inr (.inr (0, 0)), .inr (.inr (0, 0))], [.inl sjn4_0], mh h F) Z := by
      intro yjn4_6 sjn4_0 kjn4_0 kjn4_1
      have jn7 : ∀ (yjn7_7 : Int32) (sjn7_0 : Int32), (0 ≤ sjn7_0.toInt ∧ sjn7_0.toInt ≤ 1) → (sjn7_0.toInt = 0 → 0 ≤ x1.toInt ∧ x1.toInt ≤ 2 ∧ 0 ≤ x3.toInt ∧ x3.toInt ≤ 2) → xR (1399999999700) 97 107 ([.inr (.inr (8, 1)), .inl x1, .inl x2, .inl x3, .inl x4, .inl x5, .inl yjn4_6, .inl yjn7_7, .inr (.inr (0, 0)), .inr (.inr (0, 0)), .inr (.inr (0, 0)), .inr (.inr (0, 0))], [.inl sjn7_0, .inr (.inr (8, 1))], mh h F) Z := by
        intro yjn7_7 sjn7_0 kjn7_0 kjn7_1
        refine xR.blk c97_107 ?_
        refine q_callv (j := 1) rfl (by decide) ⟨Nat.le_refl 1, Nat.le_of_eq S.1.symm⟩ (Nat.le_of_ble_eq_true rfl) (Nat.le_of_ble_eq_true rfl) (by show x_ce h + 0 ≤ 0; rw [S.2.2.1]; exact Nat.le_refl 0) (by show x_so h + 0 ≤ 0; rw [S.2.2.2]; exact Nat.le_refl 0) ?_
        refine xC.up (tv91 (h := x_setc h 0 0) (F := F) (x1 := sjn7_0) S.set  (fun o10 F11 hp => ?_)) (by omega)
        obtain ⟨q14, ⟨v13, rfl, q12⟩⟩ := hp
        subst q14
        show x_seq _ _ _ _ ([.inr (.inr (8, 1)), .inl x1, .inl x2, .inl x3, .inl x4, .inl x5, .inl yjn4_6, .inl yjn7_7, .inr (.inr (0, 0)), .inr (.inr (0, 0)), .inr (.inr (0, 0)), .inr (.inr (0, 0))], [.inl v13], mh h (x_u2 F 8 0 sjn7_0))
        refine v_if_eq (fun d15 => ?_) (fun d15 => ?_)
        · skip
          refine xR.blk c97_115 ?_
          refine v_iconst (k := -1) rfl (fun v16 e17 => ?_)
          refine q_istore (Nat.le_of_ble_eq_true rfl) ?_
          show x_seq _ _ _ _ ([.inr (.inr (8, 1)), .inl x1, .inl x2, .inl x3, .inl x4, .inl x5, .inl yjn4_6, .inl yjn7_7, .inl v16, .inr (.inr (0, 0)), .inr (.inr (0, 0)), .inr (.inr (0, 0))], [], mh h (x_u2 F 8 0 sjn7_0))
          refine v_iconst (k := 0) rfl (fun v18 e19 => ?_)
          refine q_istore (Nat.le_of_ble_eq_true rfl) ?_
          show x_seq _ _ _ _ ([.inr (.inr (8, 1)), .inl x1, .inl x2, .inl x3, .inl x4, .inl x5, .inl yjn4_6, .inl yjn7_7, .inl v16, .inl v18, .inr (.inr (0, 0)), .inr (.inr (0, 0))], [], mh h (x_u2 F 8 0 sjn7_0))
          refine v_iconst (k := 12) rfl (fun v20 e21 => ?_)
          refine q_iload rfl ?_
          refine v_imul' e21 (by omega) (fun v22 e23 => ?_)
          refine q_istore (Nat.le_of_ble_eq_true rfl) ?_
          show x_seq _ _ _ _ ([.inr (.inr (8, 1)), .inl x1, .inl x2, .inl x3, .inl x4, .inl x5, .inl yjn4_6, .inl yjn7_7, .inl v16, .inl v18, .inl v22, .inr (.inr (0, 0))], [], mh h (x_u2 F 8 0 sjn7_0))
          refine q_goto ?_
          have lp24 : ∀ (m25 : Nat) (ylp24_8 : Int32) (ylp24_9 : Int32) (ylp24_10 : Int32), (12 * x1.toInt ≤ ylp24_10.toInt ∧ ylp24_10.toInt ≤ 12 * x1.toInt + 12) → (ylp24_8.toInt = -1 ∨ (12 * x1.toInt ≤ ylp24_8.toInt ∧ ylp24_8.toInt < 12 * x1.toInt + 12)) → (12 * x1.toInt + 12 - ylp24_10.toInt).toNat < m25 → xR (10000 + 100000000000 * m25) 97 127 ([.inr (.inr (8, 1)), .inl x1, .inl x2, .inl x3, .inl x4, .inl x5, .inl yjn4_6, .inl yjn7_7, .inl ylp24_8, .inl ylp24_9, .inl ylp24_10, .inr (.inr (0, 0))], [], mh h (x_u2 F 8 0 sjn7_0)) Z := by
            intro m25
            induction m25 with
            | zero => intro ylp24_8 ylp24_9 ylp24_10 klp24_0 klp24_1 kmlp24; exact absurd kmlp24 (by omega)
            | succ m25 ih26 =>
              intro ylp24_8 ylp24_9 ylp24_10 klp24_0 klp24_1 kmlp24
              rw [show 10000 + 100000000000 * (m25 + 1) = 10000 + 100000000000 * m25 + 100000000000 by omega]
              have jn27 : ∀ (sjn27_0 : Int32), (sjn27_0.toInt = -1 ∨ (12 * x1.toInt ≤ sjn27_0.toInt ∧ sjn27_0.toInt < 12 * x1.toInt + 12)) → (ylp24_10.toInt < 12 * x1.toInt + 12) → xR (10000 + 100000000000 * m25 + 99999999900) 97 161 ([.inr (.inr (8, 1)), .inl x1, .inl x2, .inl x3, .inl x4, .inl x5, .inl yjn4_6, .inl yjn7_7, .inl ylp24_8, .inl ylp24_9, .inl ylp24_10, .inr (.inr (0, 0))], [.inl sjn27_0], mh h (x_u2 F 8 0 sjn7_0)) Z := by
                intro sjn27_0 kjn27_0 kjn27_1
                refine xR.blk c97_161 ?_
                refine q_istore (Nat.le_of_ble_eq_true rfl) ?_
                show x_seq _ _ _ _ ([.inr (.inr (8, 1)), .inl x1, .inl x2, .inl x3, .inl x4, .inl x5, .inl yjn4_6, .inl yjn7_7, .inl sjn27_0, .inl ylp24_9, .inl ylp24_10, .inr (.inr (0, 0))], [], mh h (x_u2 F 8 0 sjn7_0))
                refine q_iload rfl ?_
                refine v_if_ne (fun d30 => ?_) (fun d30 => ?_)
                · skip
                  refine xR.blk c97_193 ?_
                  refine v_iconst (k := 1) rfl (fun v31 e32 => ?_)
                  refine q_goto ?_
                  refine xR.blk c97_198 ?_
                  refine q_istore (Nat.le_of_ble_eq_true rfl) ?_
                  show x_seq _ _ _ _ ([.inr (.inr (8, 1)), .inl x1, .inl x2, .inl x3, .inl x4, .inl x5, .inl yjn4_6, .inl yjn7_7, .inl sjn27_0, .inl v31, .inl ylp24_10, .inr (.inr (0, 0))], [], mh h (x_u2 F 8 0 sjn7_0))
                  refine v_iinc (k := 1) rfl rfl (by omega) (by omega) (fun v33 e34 => ?_)
                  show x_seq _ _ _ _ ([.inr (.inr (8, 1)), .inl x1, .inl x2, .inl x3, .inl x4, .inl x5, .inl yjn4_6, .inl yjn7_7, .inl sjn27_0, .inl v31, .inl v33, .inr (.inr (0, 0))], [], mh h (x_u2 F 8 0 sjn7_0))
                  refine q_goto ?_
                  exact (ih26 sjn27_0 v31 v33 (by omega) (by omega) (by omega)).up (by omega)
                · skip
                  refine q_aload rfl (by decide) ?_
                  refine m_gfr S (n := 36) (by decide) ?_
                  refine q_iload rfl ?_
                  refine m_ald (k := 11) (n := 36) S (by decide) (by omega) (by omega) ?_
                  show x_seq _ _ _ _ ([.inr (.inr (8, 1)), .inl x1, .inl x2, .inl x3, .inl x4, .inl x5, .inl yjn4_6, .inl yjn7_7, .inl sjn27_0, .inl ylp24_9, .inl ylp24_10, .inr (.inr (0, 0))], [.inl (F 30 ylp24_10.toNatClampNeg)], mh h (x_u2 F 8 0 sjn7_0))
                  refine q_iload rfl ?_
                  refine v_icmp_eq (fun d35 => ?_) (fun d35 => ?_)
                  · skip
                    refine xR.blk c97_197 ?_
                    refine v_iconst (k := 0) rfl (fun v36 e37 => ?_)
                    refine q_goto ?_
                    refine xR.blk c97_198 ?_
                    refine q_istore (Nat.le_of_ble_eq_true rfl) ?_
                    show x_seq _ _ _ _ ([.inr (.inr (8, 1)), .inl x1, .inl x2, .inl x3, .inl x4, .inl x5, .inl yjn4_6, .inl yjn7_7, .inl sjn27_0, .inl v36, .inl ylp24_10, .inr (.inr (0, 0))], [], mh h (x_u2 F 8 0 sjn7_0))
                    refine v_iinc (k := 1) rfl rfl (by omega) (by omega) (fun v38 e39 => ?_)
                    show x_seq _ _ _ _ ([.inr (.inr (8, 1)), .inl x1, .inl x2, .inl x3, .inl x4, .inl x5, .inl yjn4_6, .inl yjn7_7, .inl sjn27_0, .inl v36, .inl v38, .inr (.inr (0, 0))], [], mh h (x_u2 F 8 0 sjn7_0))
                    refine q_goto ?_
                    exact (ih26 sjn27_0 v36 v38 (by omega) (by omega) (by omega)).up (by omega)
                  · skip
                    refine q_aload rfl (by decide) ?_
                    refine m_gfr S (n := 36) (by decide) ?_
                    refine q_iload rfl ?_
                    refine m_ald (k := 11) (n := 36) S (by decide) (by omega) (by omega) ?_
                    show x_seq _ _ _ _ ([.inr (.inr (8, 1)), .inl x1, .inl x2, .inl x3, .inl x4, .inl x5, .inl yjn4_6, .inl yjn7_7, .inl sjn27_0, .inl ylp24_9, .inl ylp24_10, .inr (.inr (0, 0))], [.inl (F 30 ylp24_10.toNatClampNeg)], mh h (x_u2 F 8 0 sjn7_0))
                    refine q_iload rfl ?_
                    refine q_call (Nat.le_of_ble_eq_true rfl) (Nat.le_of_ble_eq_true rfl) (by show x_ce h + 0 ≤ 0; rw [S.2.2.1]; exact Nat.le_refl 0) (by show x_so h + 0 ≤ 0; rw [S.2.2.2]; exact Nat.le_refl 0) ?_
                    refine xC.up (tv96 (h := x_setc h 0 0) (F := (x_u2 F 8 0 sjn7_0)) (x0 := (F 30 ylp24_10.toNatClampNeg)) (x1 := x2) S.set  (fun o40 F41 hp => ?_)) (by omega)
                    obtain ⟨hF44, ⟨v43, rfl, q42⟩⟩ := hp
                    rw [hF44]
                    show x_seq _ _ _ _ ([.inr (.inr (8, 1)), .inl x1, .inl x2, .inl x3, .inl x4, .inl x5, .inl yjn4_6, .inl yjn7_7, .inl sjn27_0, .inl ylp24_9, .inl ylp24_10, .inr (.inr (0, 0))], [.inl v43], mh h (x_u2 F 8 0 sjn7_0))
                    refine v_if_eq (fun d45 => ?_) (fun d45 => ?_)
                    · skip
                      refine xR.blk c97_197 ?_
                      refine v_iconst (k := 0) rfl (fun v46 e47 => ?_)
                      refine q_goto ?_
                      refine xR.blk c97_198 ?_
                      refine q_istore (Nat.le_of_ble_eq_true rfl) ?_
                      show x_seq _ _ _ _ ([.inr (.inr (8, 1)), .inl x1, .inl x2, .inl x3, .inl x4, .inl x5, .inl yjn4_6, .inl yjn7_7, .inl sjn27_0, .inl v46, .inl ylp24_10, .inr (.inr (0, 0))], [], mh h (x_u2 F 8 0 sjn7_0))
                      refine v_iinc (k := 1) rfl rfl (by omega) (by omega) (fun v48 e49 => ?_)
                      show x_seq _ _ _ _ ([.inr (.inr (8, 1)), .inl x1, .inl x2, .inl x3, .inl x4, .inl x5, .inl yjn4_6, .inl yjn7_7, .inl sjn27_0, .inl v46, .inl v48, .inr (.inr (0, 0))], [], mh h (x_u2 F 8 0 sjn7_0))
                      refine q_goto ?_
                      exact (ih26 sjn27_0 v46 v48 (by omega) (by omega) (by omega)).up (by omega)
                    · skip
                      refine q_goto ?_
                      refine xR.blk c97_193 ?_
                      refine v_iconst (k := 1) rfl (fun v50 e51 => ?_)
                      refine q_goto ?_
                      refine xR.blk c97_198 ?_
                      refine q_istore (Nat.le_of_ble_eq_true rfl) ?_
                      show x_seq _ _ _ _ ([.inr (.inr (8, 1)), .inl x1, .inl x2, .inl x3, .inl x4, .inl x5, .inl yjn4_6, .inl yjn7_7, .inl sjn27_0, .inl v50, .inl ylp24_10, .inr (.inr (0, 0))], [], mh h (x_u2 F 8 0 sjn7_0))
                      refine v_iinc (k := 1) rfl rfl (by omega) (by omega) (fun v52 e53 => ?_)
                      show x_seq _ _ _ _ ([.inr (.inr (8, 1)), .inl x1, .inl x2, .inl x3, .inl x4, .inl x5, .inl yjn4_6, .inl yjn7_7, .inl sjn27_0, .inl v50, .inl v52, .inr (.inr (0, 0))], [], mh h (x_u2 F 8 0 sjn7_0))
                      refine q_goto ?_
                      exact (ih26 sjn27_0 v50 v52 (by omega) (by omega) (by omega)).up (by omega)
              refine xR.blk c97_127 ?_
              refine q_iload rfl ?_
              refine v_iconst (k := 12) rfl (fun v54 e55 => ?_)
              refine q_iload rfl ?_
              refine v_imul' e55 (by omega) (fun v56 e57 => ?_)
              refine q_aload rfl (by decide) ?_
              refine m_gfr S (n := 3) (by decide) ?_
              refine q_iload rfl ?_
              refine m_ald (k := 10) (n := 3) S (by decide) (by omega) (by omega) ?_
              have e58 : 0 ≤ (F 29 x1.toNatClampNeg).toInt ∧ (F 29 x1.toNatClampNeg).toInt ≤ 12 := M.rg (lo := 0) (hi := 12) (by decide) _
              show x_seq _ _ _ _ ([.inr (.inr (8, 1)), .inl x1, .inl x2, .inl x3, .inl x4, .inl x5, .inl yjn4_6, .inl yjn7_7, .inl ylp24_8, .inl ylp24_9, .inl ylp24_10, .inr (.inr (0, 0))], [.inl (F 29 x1.toNatClampNeg), .inl v56, .inl ylp24_10], mh h (x_u2 F 8 0 sjn7_0))
              refine v_iadd (by omega) (fun v59 e60 => ?_)
              refine v_icmp_ge (fun d61 => ?_) (fun d61 => ?_)
              · skip
                have jn62 : ∀ (sjn62_0 : Int32), (0 ≤ sjn62_0.toInt ∧ sjn62_0.toInt ≤ 1) → (sjn62_0.toInt = 0 → 0 ≤ ylp24_8.toInt ∨ (F 29 x1.toNatClampNeg).toInt ≤ 11) → xR (3000) 97 232 ([.inr (.inr (8, 1)), .inl x1, .inl x2, .inl x3, .inl x4, .inl x5, .inl yjn4_6, .inl yjn7_7, .inl ylp24_8, .inl ylp24_9, .inl ylp24_10, .inr (.inr (0, 0))], [.inl sjn62_0], mh h (x_u2 F 8 0 sjn7_0)) Z := by
                  intro sjn62_0 kjn62_0 kjn62_1
                  have jn65 : ∀ (yjn65_10 : Int32) (zjn65_11 : xV), (yjn65_10.toInt = 0 → ((ylp24_8.toInt < 0 ∧ (F 29 x1.toNatClampNeg).toInt ≤ 11) ∨ (0 ≤ ylp24_8.toInt ∧ (F 33 ylp24_8.toNatClampNeg).toInt ≤ 2))) → xR (1000) 97 326 ([.inr (.inr (8, 1)), .inl x1, .inl x2, .inl x3, .inl x4, .inl x5, .inl yjn4_6, .inl yjn7_7, .inl ylp24_8, .inl ylp24_9, .inl yjn65_10, zjn65_11], [], mh h (x_u2 F 8 0 sjn7_0)) Z := by
                    intro yjn65_10 zjn65_11 kjn65_0
                    have jn68 : ∀ (sjn68_0 : Int32), (0 ≤ sjn68_0.toInt ∧ sjn68_0.toInt ≤ 2) → (sjn68_0.toInt = 0 → ((ylp24_8.toInt < 0 ∧ (F 29 x1.toNatClampNeg).toInt ≤ 11) ∨ (0 ≤ ylp24_8.toInt ∧ (F 33 ylp24_8.toNatClampNeg).toInt ≤ 2))) → xR (900) 97 337 ([.inr (.inr (8, 1)), .inl x1, .inl x2, .inl x3, .inl x4, .inl x5, .inl yjn4_6, .inl yjn7_7, .inl ylp24_8, .inl ylp24_9, .inl yjn65_10, zjn65_11], [.inl sjn68_0, .inr (.inr (8, 1))], mh h (x_u2 F 8 0 sjn7_0)) Z := by
                      intro sjn68_0 kjn68_0 kjn68_1
                      refine xR.blk c97_337 ?_
                      refine q_callv (j := 1) rfl (by decide) ⟨Nat.le_refl 1, Nat.le_of_eq S.1.symm⟩ (Nat.le_of_ble_eq_true rfl) (Nat.le_of_ble_eq_true rfl) (by show x_ce h + 0 ≤ 0; rw [S.2.2.1]; exact Nat.le_refl 0) (by show x_so h + 0 ≤ 0; rw [S.2.2.2]; exact Nat.le_refl 0) ?_
                      refine xC.up (tv91 (h := x_setc h 0 0) (F := (x_u2 F 8 0 sjn7_0)) (x1 := sjn68_0) S.set  (fun o71 F72 hp => ?_)) (by omega)
                      obtain ⟨q75, ⟨v74, rfl, q73⟩⟩ := hp
                      subst q75
                      show x_seq _ _ _ _ ([.inr (.inr (8, 1)), .inl x1, .inl x2, .inl x3, .inl x4, .inl x5, .inl yjn4_6, .inl yjn7_7, .inl ylp24_8, .inl ylp24_9, .inl yjn65_10, zjn65_11], [.inl v74], mh h (x_u2 (x_u2 F 8 0 sjn7_0) 8 0 sjn68_0))
                      refine v_if_eq (fun d76 => ?_) (fun d76 => ?_)
                      · skip
                        refine xR.blk c97_345 ?_
                        refine q_iload rfl ?_
                        refine v_if_ge (fun d77 => ?_) (fun d77 => ?_)
                        · skip
                          refine xR.blk c97_406 ?_
                          refine q_aload rfl (by decide) ?_
                          refine m_gfr S (n := 36) (by decide) ?_
                          refine q_iload rfl ?_
                          refine q_iload rfl ?_
                          refine m_ast (k := 12) (n := 36) S (by decide) (by omega) (by omega) ?_
                          show x_seq _ _ _ _ ([.inr (.inr (8, 1)), .inl x1, .inl x2, .inl x3, .inl x4, .inl x5, .inl yjn4_6, .inl yjn7_7, .inl ylp24_8, .inl ylp24_9, .inl yjn65_10, zjn65_11], [], mh h (x_u2 (x_u2 (x_u2 F 8 0 sjn7_0) 8 0 sjn68_0) 31 ylp24_8.toNatClampNeg x4))
                          refine q_aload rfl (by decide) ?_
                          refine m_gfr S (n := 36) (by decide) ?_
                          refine q_iload rfl ?_
                          refine q_iload rfl ?_
                          refine m_ast (k := 13) (n := 36) S (by decide) (by omega) (by omega) ?_
                          show x_seq _ _ _ _ ([.inr (.inr (8, 1)), .inl x1, .inl x2, .inl x3, .inl x4, .inl x5, .inl yjn4_6, .inl yjn7_7, .inl ylp24_8, .inl ylp24_9, .inl yjn65_10, zjn65_11], [], mh h (x_u2 (x_u2 (x_u2 (x_u2 F 8 0 sjn7_0) 8 0 sjn68_0) 31 ylp24_8.toNatClampNeg x4) 32 ylp24_8.toNatClampNeg x5))
                          refine q_iload rfl ?_
                          refine q_iload rfl ?_
                          refine v_icmp_eq (fun d78 => ?_) (fun d78 => ?_)
                          · skip
                            refine xR.blk c97_458 ?_
                            refine q_aload rfl (by decide) ?_
                            refine m_gfr S (n := 36) (by decide) ?_
                            refine q_iload rfl ?_
                            refine m_ald (k := 14) (n := 36) S (by decide) (by omega) (by omega) ?_
                            have e79 : 0 ≤ (F 33 ylp24_8.toNatClampNeg).toInt ∧ (F 33 ylp24_8.toNatClampNeg).toInt ≤ 3 := M.rg (lo := 0) (hi := 3) (by decide) _
                            show x_seq _ _ _ _ ([.inr (.inr (8, 1)), .inl x1, .inl x2, .inl x3, .inl x4, .inl x5, .inl yjn4_6, .inl yjn7_7, .inl ylp24_8, .inl ylp24_9, .inl yjn65_10, zjn65_11], [.inl (F 33 ylp24_8.toNatClampNeg)], mh h (x_u2 (x_u2 (x_u2 (x_u2 F 8 0 sjn7_0) 8 0 sjn68_0) 31 ylp24_8.toNatClampNeg x4) 32 ylp24_8.toNatClampNeg x5))
                            exact q_iret (hZ _ _ ⟨(MX.put (K := 32) (i := ylp24_8.toNatClampNeg) (v := x5) (MX.put (K := 31) (i := ylp24_8.toNatClampNeg) (v := x4) (MX.putf (k := 0) (v := sjn68_0) (MX.putf (k := 0) (v := sjn7_0) M (fun lo hi hm => by simp only [mfl, List.mem_cons, Prod.mk.injEq, List.not_mem_nil, or_false] at hm; omega)) (fun lo hi hm => by simp only [mfl, List.mem_cons, Prod.mk.injEq, List.not_mem_nil, or_false] at hm; omega)) (fun lo hi hm => by simp only [mrl, List.mem_cons, Prod.mk.injEq, List.not_mem_nil, or_false] at hm; omega) (by decide) (fun z => absurd z (by decide)) (Or.inl rfl)) (fun lo hi hm => by simp only [mrl, List.mem_cons, Prod.mk.injEq, List.not_mem_nil, or_false] at hm; omega) (by decide) (fun z => absurd z (by decide)) (Or.inl rfl)), ⟨_, rfl⟩⟩)
                          · skip
                            refine q_aload rfl (by decide) ?_
                            refine m_gfr S (n := 108) (by decide) ?_
                            refine v_iconst (k := 3) rfl (fun v80 e81 => ?_)
                            refine q_iload rfl ?_
                            refine v_imul' e81 (by omega) (fun v82 e83 => ?_)
                            refine q_aload rfl (by decide) ?_
                            refine m_gfr S (n := 36) (by decide) ?_
                            refine q_iload rfl ?_
                            refine m_ald (k := 14) (n := 36) S (by decide) (by omega) (by omega) ?_
                            have e84 : 0 ≤ (F 33 ylp24_8.toNatClampNeg).toInt ∧ (F 33 ylp24_8.toNatClampNeg).toInt ≤ 3 := M.rg (lo := 0) (hi := 3) (by decide) _
                            show x_seq _ _ _ _ ([.inr (.inr (8, 1)), .inl x1, .inl x2, .inl x3, .inl x4, .inl x5, .inl yjn4_6, .inl yjn7_7, .inl ylp24_8, .inl ylp24_9, .inl yjn65_10, zjn65_11], [.inl (F 33 ylp24_8.toNatClampNeg), .inl v82, .inr (.inr (35, 1))], mh h (x_u2 (x_u2 (x_u2 (x_u2 F 8 0 sjn7_0) 8 0 sjn68_0) 31 ylp24_8.toNatClampNeg x4) 32 ylp24_8.toNatClampNeg x5))
                            refine v_iadd (by omega) (fun v85 e86 => ?_)
                            refine q_iload rfl ?_
                            refine m_ast (k := 16) (n := 108) S (by decide) (by omega) (by omega) ?_
                            show x_seq _ _ _ _ ([.inr (.inr (8, 1)), .inl x1, .inl x2, .inl x3, .inl x4, .inl x5, .inl yjn4_6, .inl yjn7_7, .inl ylp24_8, .inl ylp24_9, .inl yjn65_10, zjn65_11], [], mh h (x_u2 (x_u2 (x_u2 (x_u2 (x_u2 F 8 0 sjn7_0) 8 0 sjn68_0) 31 ylp24_8.toNatClampNeg x4) 32 ylp24_8.toNatClampNeg x5) 35 v85.toNatClampNeg x3))
                            refine q_aload rfl (by decide) ?_
                            refine m_gfr S (n := 36) (by decide) ?_
                            refine q_iload rfl ?_
                            refine q_dup2 rfl rfl ?_
                            refine m_ald (k := 14) (n := 36) S (by decide) (by omega) (by omega) ?_
                            have e87 : 0 ≤ (F 33 ylp24_8.toNatClampNeg).toInt ∧ (F 33 ylp24_8.toNatClampNeg).toInt ≤ 3 := M.rg (lo := 0) (hi := 3) (by decide) _
                            show x_seq _ _ _ _ ([.inr (.inr (8, 1)), .inl x1, .inl x2, .inl x3, .inl x4, .inl x5, .inl yjn4_6, .inl yjn7_7, .inl ylp24_8, .inl ylp24_9, .inl yjn65_10, zjn65_11], [.inl (F 33 ylp24_8.toNatClampNeg), .inl ylp24_8, .inr (.inr (33, 1))], mh h (x_u2 (x_u2 (x_u2 (x_u2 (x_u2 F 8 0 sjn7_0) 8 0 sjn68_0) 31 ylp24_8.toNatClampNeg x4) 32 ylp24_8.toNatClampNeg x5) 35 v85.toNatClampNeg x3))
                            refine v_iconst (k := 1) rfl (fun v88 e89 => ?_)
                            refine v_iadd (by omega) (fun v90 e91 => ?_)
                            refine m_ast (k := 14) (n := 36) S (by decide) (by omega) (by omega) ?_
                            show x_seq _ _ _ _ ([.inr (.inr (8, 1)), .inl x1, .inl x2, .inl x3, .inl x4, .inl x5, .inl yjn4_6, .inl yjn7_7, .inl ylp24_8, .inl ylp24_9, .inl yjn65_10, zjn65_11], [], mh h (x_u2 (x_u2 (x_u2 (x_u2 (x_u2 (x_u2 F 8 0 sjn7_0) 8 0 sjn68_0) 31 ylp24_8.toNatClampNeg x4) 32 ylp24_8.toNatClampNeg x5) 35 v85.toNatClampNeg x3) 33 ylp24_8.toNatClampNeg v90))
                            refine q_goto ?_
                            refine xR.blk c97_458 ?_
                            refine q_aload rfl (by decide) ?_
                            refine m_gfr S (n := 36) (by decide) ?_
                            refine q_iload rfl ?_
                            refine m_ald (k := 14) (n := 36) S (by decide) (by omega) (by omega) ?_
                            rw [show (x_u2 (x_u2 (x_u2 (x_u2 (x_u2 (x_u2 F 8 0 sjn7_0) 8 0 sjn68_0) 31 ylp24_8.toNatClampNeg x4) 32 ylp24_8.toNatClampNeg x5) 35 v85.toNatClampNeg x3) 33 ylp24_8.toNatClampNeg v90) 33 ylp24_8.toNatClampNeg = v90 from (by rw [u2_eq])]
                            show x_seq _ _ _ _ ([.inr (.inr (8, 1)), .inl x1, .inl x2, .inl x3, .inl x4, .inl x5, .inl yjn4_6, .inl yjn7_7, .inl ylp24_8, .inl ylp24_9, .inl yjn65_10, zjn65_11], [.inl v90], mh h (x_u2 (x_u2 (x_u2 (x_u2 (x_u2 (x_u2 F 8 0 sjn7_0) 8 0 sjn68_0) 31 ylp24_8.toNatClampNeg x4) 32 ylp24_8.toNatClampNeg x5) 35 v85.toNatClampNeg x3) 33 ylp24_8.toNatClampNeg v90))
                            exact q_iret (hZ _ _ ⟨(MX.put (K := 33) (i := ylp24_8.toNatClampNeg) (v := v90) (MX.put (K := 35) (i := v85.toNatClampNeg) (v := x3) (MX.put (K := 32) (i := ylp24_8.toNatClampNeg) (v := x5) (MX.put (K := 31) (i := ylp24_8.toNatClampNeg) (v := x4) (MX.putf (k := 0) (v := sjn68_0) (MX.putf (k := 0) (v := sjn7_0) M (fun lo hi hm => by simp only [mfl, List.mem_cons, Prod.mk.injEq, List.not_mem_nil, or_false] at hm; omega)) (fun lo hi hm => by simp only [mfl, List.mem_cons, Prod.mk.injEq, List.not_mem_nil, or_false] at hm; omega)) (fun lo hi hm => by simp only [mrl, List.mem_cons, Prod.mk.injEq, List.not_mem_nil, or_false] at hm; omega) (by decide) (fun z => absurd z (by decide)) (Or.inl rfl)) (fun lo hi hm => by simp only [mrl, List.mem_cons, Prod.mk.injEq, List.not_mem_nil, or_false] at hm; omega) (by decide) (fun z => absurd z (by decide)) (Or.inl rfl)) (fun lo hi hm => by simp only [mrl, List.mem_cons, Prod.mk.injEq, List.not_mem_nil, or_false] at hm; omega) (by decide) (fun z => absurd z (by decide)) (Or.inl rfl)) (fun lo hi hm => by simp only [mrl, List.mem_cons, Prod.mk.injEq, List.not_mem_nil, or_false] at hm; omega) (by decide) (fun z => absurd z (by decide)) (Or.inl rfl)), ⟨_, rfl⟩⟩)
                        · skip
                          refine v_iconst (k := 12) rfl (fun v92 e93 => ?_)
                          refine q_iload rfl ?_
                          refine v_imul' e93 (by omega) (fun v94 e95 => ?_)
                          refine q_aload rfl (by decide) ?_
                          refine m_gfr S (n := 3) (by decide) ?_
                          refine q_iload rfl ?_
                          refine m_ald (k := 10) (n := 3) S (by decide) (by omega) (by omega) ?_
                          have e96 : 0 ≤ (F 29 x1.toNatClampNeg).toInt ∧ (F 29 x1.toNatClampNeg).toInt ≤ 12 := M.rg (lo := 0) (hi := 12) (by decide) _
                          show x_seq _ _ _ _ ([.inr (.inr (8, 1)), .inl x1, .inl x2, .inl x3, .inl x4, .inl x5, .inl yjn4_6, .inl yjn7_7, .inl ylp24_8, .inl ylp24_9, .inl yjn65_10, zjn65_11], [.inl (F 29 x1.toNatClampNeg), .inl v94], mh h (x_u2 (x_u2 F 8 0 sjn7_0) 8 0 sjn68_0))
                          refine v_iadd (by omega) (fun v97 e98 => ?_)
                          refine q_istore (Nat.le_of_ble_eq_true rfl) ?_
                          show x_seq _ _ _ _ ([.inr (.inr (8, 1)), .inl x1, .inl x2, .inl x3, .inl x4, .inl x5, .inl yjn4_6, .inl yjn7_7, .inl v97, .inl ylp24_9, .inl yjn65_10, zjn65_11], [], mh h (x_u2 (x_u2 F 8 0 sjn7_0) 8 0 sjn68_0))
                          refine q_aload rfl (by decide) ?_
                          refine m_gfr S (n := 3) (by decide) ?_
                          refine q_iload rfl ?_
                          refine q_dup2 rfl rfl ?_
                          refine m_ald (k := 10) (n := 3) S (by decide) (by omega) (by omega) ?_
                          have e99 : 0 ≤ (F 29 x1.toNatClampNeg).toInt ∧ (F 29 x1.toNatClampNeg).toInt ≤ 12 := M.rg (lo := 0) (hi := 12) (by decide) _
                          show x_seq _ _ _ _ ([.inr (.inr (8, 1)), .inl x1, .inl x2, .inl x3, .inl x4, .inl x5, .inl yjn4_6, .inl yjn7_7, .inl v97, .inl ylp24_9, .inl yjn65_10, zjn65_11], [.inl (F 29 x1.toNatClampNeg), .inl x1, .inr (.inr (29, 1))], mh h (x_u2 (x_u2 F 8 0 sjn7_0) 8 0 sjn68_0))
                          refine v_iconst (k := 1) rfl (fun v100 e101 => ?_)
                          refine v_iadd (by omega) (fun v102 e103 => ?_)
                          refine m_ast (k := 10) (n := 3) S (by decide) (by omega) (by omega) ?_
                          show x_seq _ _ _ _ ([.inr (.inr (8, 1)), .inl x1, .inl x2, .inl x3, .inl x4, .inl x5, .inl yjn4_6, .inl yjn7_7, .inl v97, .inl ylp24_9, .inl yjn65_10, zjn65_11], [], mh h (x_u2 (x_u2 (x_u2 F 8 0 sjn7_0) 8 0 sjn68_0) 29 x1.toNatClampNeg v102))
                          refine q_aload rfl (by decide) ?_
                          refine m_gfr S (n := 36) (by decide) ?_
                          refine q_iload rfl ?_
                          refine q_iload rfl ?_
                          refine m_ast (k := 11) (n := 36) S (by decide) (by omega) (by omega) ?_
                          show x_seq _ _ _ _ ([.inr (.inr (8, 1)), .inl x1, .inl x2, .inl x3, .inl x4, .inl x5, .inl yjn4_6, .inl yjn7_7, .inl v97, .inl ylp24_9, .inl yjn65_10, zjn65_11], [], mh h (x_u2 (x_u2 (x_u2 (x_u2 F 8 0 sjn7_0) 8 0 sjn68_0) 29 x1.toNatClampNeg v102) 30 v97.toNatClampNeg x2))
                          refine q_aload rfl (by decide) ?_
                          refine m_gfr S (n := 36) (by decide) ?_
                          refine q_iload rfl ?_
                          refine q_iload rfl ?_
                          refine q_iload rfl ?_
                          refine v_icmp_ne (fun d104 => ?_) (fun d104 => ?_)
                          · skip
                            refine xR.blk c97_396 ?_
                            refine v_iconst (k := 0) rfl (fun v105 e106 => ?_)
                            refine q_goto ?_
                            refine xR.blk c97_397 ?_
                            refine m_zst (k := 15) (n := 36) S (by decide) (by omega) (by omega) (i32_01 (by omega)) ?_
                            show x_seq _ _ _ _ ([.inr (.inr (8, 1)), .inl x1, .inl x2, .inl x3, .inl x4, .inl x5, .inl yjn4_6, .inl yjn7_7, .inl v97, .inl ylp24_9, .inl yjn65_10, zjn65_11], [], mh h (x_u2 (x_u2 (x_u2 (x_u2 (x_u2 F 8 0 sjn7_0) 8 0 sjn68_0) 29 x1.toNatClampNeg v102) 30 v97.toNatClampNeg x2) 34 v97.toNatClampNeg v105))
                            refine q_aload rfl (by decide) ?_
                            refine m_gfr S (n := 36) (by decide) ?_
                            refine q_iload rfl ?_
                            refine v_iconst (k := 0) rfl (fun v107 e108 => ?_)
                            refine m_ast (k := 14) (n := 36) S (by decide) (by omega) (by omega) ?_
                            show x_seq _ _ _ _ ([.inr (.inr (8, 1)), .inl x1, .inl x2, .inl x3, .inl x4, .inl x5, .inl yjn4_6, .inl yjn7_7, .inl v97, .inl ylp24_9, .inl yjn65_10, zjn65_11], [], mh h (x_u2 (x_u2 (x_u2 (x_u2 (x_u2 (x_u2 F 8 0 sjn7_0) 8 0 sjn68_0) 29 x1.toNatClampNeg v102) 30 v97.toNatClampNeg x2) 34 v97.toNatClampNeg v105) 33 v97.toNatClampNeg v107))
                            refine q_goto ?_
                            refine xR.blk c97_406 ?_
                            refine q_aload rfl (by decide) ?_
                            refine m_gfr S (n := 36) (by decide) ?_
                            refine q_iload rfl ?_
                            refine q_iload rfl ?_
                            refine m_ast (k := 12) (n := 36) S (by decide) (by omega) (by omega) ?_
                            show x_seq _ _ _ _ ([.inr (.inr (8, 1)), .inl x1, .inl x2, .inl x3, .inl x4, .inl x5, .inl yjn4_6, .inl yjn7_7, .inl v97, .inl ylp24_9, .inl yjn65_10, zjn65_11], [], mh h (x_u2 (x_u2 (x_u2 (x_u2 (x_u2 (x_u2 (x_u2 F 8 0 sjn7_0) 8 0 sjn68_0) 29 x1.toNatClampNeg v102) 30 v97.toNatClampNeg x2) 34 v97.toNatClampNeg v105) 33 v97.toNatClampNeg v107) 31 v97.toNatClampNeg x4))
                            refine q_aload rfl (by decide) ?_
                            refine m_gfr S (n := 36) (by decide) ?_
                            refine q_iload rfl ?_
                            refine q_iload rfl ?_
                            refine m_ast (k := 13) (n := 36) S (by decide) (by omega) (by omega) ?_
                            show x_seq _ _ _ _ ([.inr (.inr (8, 1)), .inl x1, .inl x2, .inl x3, .inl x4, .inl x5, .inl yjn4_6, .inl yjn7_7, .inl v97, .inl ylp24_9, .inl yjn65_10, zjn65_11], [], mh h (x_u2 (x_u2 (x_u2 (x_u2 (x_u2 (x_u2 (x_u2 (x_u2 F 8 0 sjn7_0) 8 0 sjn68_0) 29 x1.toNatClampNeg v102) 30 v97.toNatClampNeg x2) 34 v97.toNatClampNeg v105) 33 v97.toNatClampNeg v107) 31 v97.toNatClampNeg x4) 32 v97.toNatClampNeg x5))
                            refine q_iload rfl ?_
                            refine q_iload rfl ?_
                            refine v_icmp_eq (fun d109 => ?_) (fun d109 => ?_)
                            · skip
                              refine xR.blk c97_458 ?_
                              refine q_aload rfl (by decide) ?_
                              refine m_gfr S (n := 36) (by decide) ?_
                              refine q_iload rfl ?_
                              refine m_ald (k := 14) (n := 36) S (by decide) (by omega) (by omega) ?_
                              rw [show (x_u2 (x_u2 (x_u2 (x_u2 (x_u2 (x_u2 (x_u2 (x_u2 F 8 0 sjn7_0) 8 0 sjn68_0) 29 x1.toNatClampNeg v102) 30 v97.toNatClampNeg x2) 34 v97.toNatClampNeg v105) 33 v97.toNatClampNeg v107) 31 v97.toNatClampNeg x4) 32 v97.toNatClampNeg x5) 33 v97.toNatClampNeg = v107 from (by rw [u2_ne (by decide), u2_ne (by decide), u2_eq])]
                              show x_seq _ _ _ _ ([.inr (.inr (8, 1)), .inl x1, .inl x2, .inl x3, .inl x4, .inl x5, .inl yjn4_6, .inl yjn7_7, .inl v97, .inl ylp24_9, .inl yjn65_10, zjn65_11], [.inl v107], mh h (x_u2 (x_u2 (x_u2 (x_u2 (x_u2 (x_u2 (x_u2 (x_u2 F 8 0 sjn7_0) 8 0 sjn68_0) 29 x1.toNatClampNeg v102) 30 v97.toNatClampNeg x2) 34 v97.toNatClampNeg v105) 33 v97.toNatClampNeg v107) 31 v97.toNatClampNeg x4) 32 v97.toNatClampNeg x5))
                              exact q_iret (hZ _ _ ⟨(MX.put (K := 32) (i := v97.toNatClampNeg) (v := x5) (MX.put (K := 31) (i := v97.toNatClampNeg) (v := x4) (MX.put (K := 33) (i := v97.toNatClampNeg) (v := v107) (MX.put (K := 34) (i := v97.toNatClampNeg) (v := v105) (MX.put (K := 30) (i := v97.toNatClampNeg) (v := x2) (MX.put (K := 29) (i := x1.toNatClampNeg) (v := v102) (MX.putf (k := 0) (v := sjn68_0) (MX.putf (k := 0) (v := sjn7_0) M (fun lo hi hm => by simp only [mfl, List.mem_cons, Prod.mk.injEq, List.not_mem_nil, or_false] at hm; omega)) (fun lo hi hm => by simp only [mfl, List.mem_cons, Prod.mk.injEq, List.not_mem_nil, or_false] at hm; omega)) (fun lo hi hm => by simp only [mrl, List.mem_cons, Prod.mk.injEq, List.not_mem_nil, or_false] at hm; omega) (by decide) (fun z => absurd z (by decide)) (Or.inl rfl)) (fun lo hi hm => by simp only [mrl, List.mem_cons, Prod.mk.injEq, List.not_mem_nil, or_false] at hm; omega) (by decide) (fun z => absurd z (by decide)) (Or.inl rfl)) (fun lo hi hm => by simp only [mrl, List.mem_cons, Prod.mk.injEq, List.not_mem_nil, or_false] at hm; omega) (by decide) (fun z => absurd z (by decide)) (Or.inl rfl)) (fun lo hi hm => by simp only [mrl, List.mem_cons, Prod.mk.injEq, List.not_mem_nil, or_false] at hm; omega) (by decide) (fun z => absurd z (by decide)) (Or.inl rfl)) (fun lo hi hm => by simp only [mrl, List.mem_cons, Prod.mk.injEq, List.not_mem_nil, or_false] at hm; omega) (by decide) (fun z => absurd z (by decide)) (Or.inl rfl)) (fun lo hi hm => by simp only [mrl, List.mem_cons, Prod.mk.injEq, List.not_mem_nil, or_false] at hm; omega) (by decide) (fun z => absurd z (by decide)) (Or.inl rfl)), ⟨_, rfl⟩⟩)
                            · skip
                              refine q_aload rfl (by decide) ?_
                              refine m_gfr S (n := 108) (by decide) ?_
                              refine v_iconst (k := 3) rfl (fun v110 e111 => ?_)
                              refine q_iload rfl ?_
                              refine v_imul' e111 (by omega) (fun v112 e113 => ?_)
                              refine q_aload rfl (by decide) ?_
                              refine m_gfr S (n := 36) (by decide) ?_
                              refine q_iload rfl ?_
                              refine m_ald (k := 14) (n := 36) S (by decide) (by omega) (by omega) ?_
                              rw [show (x_u2 (x_u2 (x_u2 (x_u2 (x_u2 (x_u2 (x_u2 (x_u2 F 8 0 sjn7_0) 8 0 sjn68_0) 29 x1.toNatClampNeg v102) 30 v97.toNatClampNeg x2) 34 v97.toNatClampNeg v105) 33 v97.toNatClampNeg v107) 31 v97.toNatClampNeg x4) 32 v97.toNatClampNeg x5) 33 v97.toNatClampNeg = v107 from (by rw [u2_ne (by decide), u2_ne (by decide), u2_eq])]
                              show x_seq _ _ _ _ ([.inr (.inr (8, 1)), .inl x1, .inl x2, .inl x3, .inl x4, .inl x5, .inl yjn4_6, .inl yjn7_7, .inl v97, .inl ylp24_9, .inl yjn65_10, zjn65_11], [.inl v107, .inl v112, .inr (.inr (35, 1))], mh h (x_u2 (x_u2 (x_u2 (x_u2 (x_u2 (x_u2 (x_u2 (x_u2 F 8 0 sjn7_0) 8 0 sjn68_0) 29 x1.toNatClampNeg v102) 30 v97.toNatClampNeg x2) 34 v97.toNatClampNeg v105) 33 v97.toNatClampNeg v107) 31 v97.toNatClampNeg x4) 32 v97.toNatClampNeg x5))
                              refine v_iadd (by omega) (fun v114 e115 => ?_)
                              refine q_iload rfl ?_
                              refine m_ast (k := 16) (n := 108) S (by decide) (by omega) (by omega) ?_
                              show x_seq _ _ _ _ ([.inr (.inr (8, 1)), .inl x1, .inl x2, .inl x3, .inl x4, .inl x5, .inl yjn4_6, .inl yjn7_7, .inl v97, .inl ylp24_9, .inl yjn65_10, zjn65_11], [], mh h (x_u2 (x_u2 (x_u2 (x_u2 (x_u2 (x_u2 (x_u2 (x_u2 (x_u2 F 8 0 sjn7_0) 8 0 sjn68_0) 29 x1.toNatClampNeg v102) 30 v97.toNatClampNeg x2) 34 v97.toNatClampNeg v105) 33 v97.toNatClampNeg v107) 31 v97.toNatClampNeg x4) 32 v97.toNatClampNeg x5) 35 v114.toNatClampNeg x3))
                              refine q_aload rfl (by decide) ?_
                              refine m_gfr S (n := 36) (by decide) ?_
                              refine q_iload rfl ?_
                              refine q_dup2 rfl rfl ?_
                              refine m_ald (k := 14) (n := 36) S (by decide) (by omega) (by omega) ?_
                              rw [show (x_u2 (x_u2 (x_u2 (x_u2 (x_u2 (x_u2 (x_u2 (x_u2 (x_u2 F 8 0 sjn7_0) 8 0 sjn68_0) 29 x1.toNatClampNeg v102) 30 v97.toNatClampNeg x2) 34 v97.toNatClampNeg v105) 33 v97.toNatClampNeg v107) 31 v97.toNatClampNeg x4) 32 v97.toNatClampNeg x5) 35 v114.toNatClampNeg x3) 33 v97.toNatClampNeg = v107 from (by rw [u2_ne (by decide), u2_ne (by decide), u2_ne (by decide), u2_eq])]
                              show x_seq _ _ _ _ ([.inr (.inr (8, 1)), .inl x1, .inl x2, .inl x3, .inl x4, .inl x5, .inl yjn4_6, .inl yjn7_7, .inl v97, .inl ylp24_9, .inl yjn65_10, zjn65_11], [.inl v107, .inl v97, .inr (.inr (33, 1))], mh h (x_u2 (x_u2 (x_u2 (x_u2 (x_u2 (x_u2 (x_u2 (x_u2 (x_u2 F 8 0 sjn7_0) 8 0 sjn68_0) 29 x1.toNatClampNeg v102) 30 v97.toNatClampNeg x2) 34 v97.toNatClampNeg v105) 33 v97.toNatClampNeg v107) 31 v97.toNatClampNeg x4) 32 v97.toNatClampNeg x5) 35 v114.toNatClampNeg x3))
                              refine v_iconst (k := 1) rfl (fun v116 e117 => ?_)
                              refine v_iadd (by omega) (fun v118 e119 => ?_)
                              refine m_ast (k := 14) (n := 36) S (by decide) (by omega) (by omega) ?_
                              show x_seq _ _ _ _ ([.inr (.inr (8, 1)), .inl x1, .inl x2, .inl x3, .inl x4, .inl x5, .inl yjn4_6, .inl yjn7_7, .inl v97, .inl ylp24_9, .inl yjn65_10, zjn65_11], [], mh h (x_u2 (x_u2 (x_u2 (x_u2 (x_u2 (x_u2 (x_u2 (x_u2 (x_u2 (x_u2 F 8 0 sjn7_0) 8 0 sjn68_0) 29 x1.toNatClampNeg v102) 30 v97.toNatClampNeg x2) 34 v97.toNatClampNeg v105) 33 v97.toNatClampNeg v107) 31 v97.toNatClampNeg x4) 32 v97.toNatClampNeg x5) 35 v114.toNatClampNeg x3) 33 v97.toNatClampNeg v118))
                              refine q_goto ?_
                              refine xR.blk c97_458 ?_
                              refine q_aload rfl (by decide) ?_
                              refine m_gfr S (n := 36) (by decide) ?_
                              refine q_iload rfl ?_
                              refine m_ald (k := 14) (n := 36) S (by decide) (by omega) (by omega) ?_
                              rw [show (x_u2 (x_u2 (x_u2 (x_u2 (x_u2 (x_u2 (x_u2 (x_u2 (x_u2 (x_u2 F 8 0 sjn7_0) 8 0 sjn68_0) 29 x1.toNatClampNeg v102) 30 v97.toNatClampNeg x2) 34 v97.toNatClampNeg v105) 33 v97.toNatClampNeg v107) 31 v97.toNatClampNeg x4) 32 v97.toNatClampNeg x5) 35 v114.toNatClampNeg x3) 33 v97.toNatClampNeg v118) 33 v97.toNatClampNeg = v118 from (by rw [u2_eq])]
                              show x_seq _ _ _ _ ([.inr (.inr (8, 1)), .inl x1, .inl x2, .inl x3, .inl x4, .inl x5, .inl yjn4_6, .inl yjn7_7, .inl v97, .inl ylp24_9, .inl yjn65_10, zjn65_11], [.inl v118], mh h (x_u2 (x_u2 (x_u2 (x_u2 (x_u2 (x_u2 (x_u2 (x_u2 (x_u2 (x_u2 F 8 0 sjn7_0) 8 0 sjn68_0) 29 x1.toNatClampNeg v102) 30 v97.toNatClampNeg x2) 34 v97.toNatClampNeg v105) 33 v97.toNatClampNeg v107) 31 v97.toNatClampNeg x4) 32 v97.toNatClampNeg x5) 35 v114.toNatClampNeg x3) 33 v97.toNatClampNeg v118))
                              exact q_iret (hZ _ _ ⟨(MX.put (K := 33) (i := v97.toNatClampNeg) (v := v118) (MX.put (K := 35) (i := v114.toNatClampNeg) (v := x3) (MX.put (K := 32) (i := v97.toNatClampNeg) (v := x5) (MX.put (K := 31) (i := v97.toNatClampNeg) (v := x4) (MX.put (K := 33) (i := v97.toNatClampNeg) (v := v107) (MX.put (K := 34) (i := v97.toNatClampNeg) (v := v105) (MX.put (K := 30) (i := v97.toNatClampNeg) (v := x2) (MX.put (K := 29) (i := x1.toNatClampNeg) (v := v102) (MX.putf (k := 0) (v := sjn68_0) (MX.putf (k := 0) (v := sjn7_0) M (fun lo hi hm => by simp only [mfl, List.mem_cons, Prod.mk.injEq, List.not_mem_nil, or_false] at hm; omega)) (fun lo hi hm => by simp only [mfl, List.mem_cons, Prod.mk.injEq, List.not_mem_nil, or_false] at hm; omega)) (fun lo hi hm => by simp only [mrl, List.mem_cons, Prod.mk.injEq, List.not_mem_nil, or_false] at hm; omega) (by decide) (fun z => absurd z (by decide)) (Or.inl rfl)) (fun lo hi hm => by simp only [mrl, List.mem_cons, Prod.mk.injEq, List.not_mem_nil, or_false] at hm; omega) (by decide) (fun z => absurd z (by decide)) (Or.inl rfl)) (fun lo hi hm => by simp only [mrl, List.mem_cons, Prod.mk.injEq, List.not_mem_nil, or_false] at hm; omega) (by decide) (fun z => absurd z (by decide)) (Or.inl rfl)) (fun lo hi hm => by simp only [mrl, List.mem_cons, Prod.mk.injEq, List.not_mem_nil, or_false] at hm; omega) (by decide) (fun z => absurd z (by decide)) (Or.inl rfl)) (fun lo hi hm => by simp only [mrl, List.mem_cons, Prod.mk.injEq, List.not_mem_nil, or_false] at hm; omega) (by decide) (fun z => absurd z (by decide)) (Or.inl rfl)) (fun lo hi hm => by simp only [mrl, List.mem_cons, Prod.mk.injEq, List.not_mem_nil, or_false] at hm; omega) (by decide) (fun z => absurd z (by decide)) (Or.inl rfl)) (fun lo hi hm => by simp only [mrl, List.mem_cons, Prod.mk.injEq, List.not_mem_nil, or_false] at hm; omega) (by decide) (fun z => absurd z (by decide)) (Or.inl rfl)) (fun lo hi hm => by simp only [mrl, List.mem_cons, Prod.mk.injEq, List.not_mem_nil, or_false] at hm; omega) (by decide) (fun z => absurd z (by decide)) (Or.inl rfl)), ⟨_, rfl⟩⟩)
                          · skip
                            refine v_iconst (k := 1) rfl (fun v120 e121 => ?_)
                            refine q_goto ?_
                            refine xR.blk c97_397 ?_
                            refine m_zst (k := 15) (n := 36) S (by decide) (by omega) (by omega) (i32_01 (by omega)) ?_
                            show x_seq _ _ _ _ ([.inr (.inr (8, 1)), .inl x1, .inl x2, .inl x3, .inl x4, .inl x5, .inl yjn4_6, .inl yjn7_7, .inl v97, .inl ylp24_9, .inl yjn65_10, zjn65_11], [], mh h (x_u2 (x_u2 (x_u2 (x_u2 (x_u2 F 8 0 sjn7_0) 8 0 sjn68_0) 29 x1.toNatClampNeg v102) 30 v97.toNatClampNeg x2) 34 v97.toNatClampNeg v120))
                            refine q_aload rfl (by decide) ?_
                            refine m_gfr S (n := 36) (by decide) ?_
                            refine q_iload rfl ?_
                            refine v_iconst (k := 0) rfl (fun v122 e123 => ?_)
                            refine m_ast (k := 14) (n := 36) S (by decide) (by omega) (by omega) ?_
                            show x_seq _ _ _ _ ([.inr (.inr (8, 1)), .inl x1, .inl x2, .inl x3, .inl x4, .inl x5, .inl yjn4_6, .inl yjn7_7, .inl v97, .inl ylp24_9, .inl yjn65_10, zjn65_11], [], mh h (x_u2 (x_u2 (x_u2 (x_u2 (x_u2 (x_u2 F 8 0 sjn7_0) 8 0 sjn68_0) 29 x1.toNatClampNeg v102) 30 v97.toNatClampNeg x2) 34 v97.toNatClampNeg v120) 33 v97.toNatClampNeg v122))
                            refine q_goto ?_
                            refine xR.blk c97_406 ?_
                            refine q_aload rfl (by decide) ?_
                            refine m_gfr S (n := 36) (by decide) ?_
                            refine q_iload rfl ?_
                            refine q_iload rfl ?_
                            refine m_ast (k := 12) (n := 36) S (by decide) (by omega) (by omega) ?_
                            show x_seq _ _ _ _ ([.inr (.inr (8, 1)), .inl x1, .inl x2, .inl x3, .inl x4, .inl x5, .inl yjn4_6, .inl yjn7_7, .inl v97, .inl ylp24_9, .inl yjn65_10, zjn65_11], [], mh h (x_u2 (x_u2 (x_u2 (x_u2 (x_u2 (x_u2 (x_u2 F 8 0 sjn7_0) 8 0 sjn68_0) 29 x1.toNatClampNeg v102) 30 v97.toNatClampNeg x2) 34 v97.toNatClampNeg v120) 33 v97.toNatClampNeg v122) 31 v97.toNatClampNeg x4))
                            refine q_aload rfl (by decide) ?_
                            refine m_gfr S (n := 36) (by decide) ?_
                            refine q_iload rfl ?_
                            refine q_iload rfl ?_
                            refine m_ast (k := 13) (n := 36) S (by decide) (by omega) (by omega) ?_
                            show x_seq _ _ _ _ ([.inr (.inr (8, 1)), .inl x1, .inl x2, .inl x3, .inl x4, .inl x5, .inl yjn4_6, .inl yjn7_7, .inl v97, .inl ylp24_9, .inl yjn65_10, zjn65_11], [], mh h (x_u2 (x_u2 (x_u2 (x_u2 (x_u2 (x_u2 (x_u2 (x_u2 F 8 0 sjn7_0) 8 0 sjn68_0) 29 x1.toNatClampNeg v102) 30 v97.toNatClampNeg x2) 34 v97.toNatClampNeg v120) 33 v97.toNatClampNeg v122) 31 v97.toNatClampNeg x4) 32 v97.toNatClampNeg x5))
                            refine q_iload rfl ?_
                            refine q_iload rfl ?_
                            refine v_icmp_eq (fun d124 => ?_) (fun d124 => ?_)
                            · skip
                              refine xR.blk c97_458 ?_
                              refine q_aload rfl (by decide) ?_
                              refine m_gfr S (n := 36) (by decide) ?_
                              refine q_iload rfl ?_
                              refine m_ald (k := 14) (n := 36) S (by decide) (by omega) (by omega) ?_
                              rw [show (x_u2 (x_u2 (x_u2 (x_u2 (x_u2 (x_u2 (x_u2 (x_u2 F 8 0 sjn7_0) 8 0 sjn68_0) 29 x1.toNatClampNeg v102) 30 v97.toNatClampNeg x2) 34 v97.toNatClampNeg v120) 33 v97.toNatClampNeg v122) 31 v97.toNatClampNeg x4) 32 v97.toNatClampNeg x5) 33 v97.toNatClampNeg = v122 from (by rw [u2_ne (by decide), u2_ne (by decide), u2_eq])]
                              show x_seq _ _ _ _ ([.inr (.inr (8, 1)), .inl x1, .inl x2, .inl x3, .inl x4, .inl x5, .inl yjn4_6, .inl yjn7_7, .inl v97, .inl ylp24_9, .inl yjn65_10, zjn65_11], [.inl v122], mh h (x_u2 (x_u2 (x_u2 (x_u2 (x_u2 (x_u2 (x_u2 (x_u2 F 8 0 sjn7_0) 8 0 sjn68_0) 29 x1.toNatClampNeg v102) 30 v97.toNatClampNeg x2) 34 v97.toNatClampNeg v120) 33 v97.toNatClampNeg v122) 31 v97.toNatClampNeg x4) 32 v97.toNatClampNeg x5))
                              exact q_iret (hZ _ _ ⟨(MX.put (K := 32) (i := v97.toNatClampNeg) (v := x5) (MX.put (K := 31) (i := v97.toNatClampNeg) (v := x4) (MX.put (K := 33) (i := v97.toNatClampNeg) (v := v122) (MX.put (K := 34) (i := v97.toNatClampNeg) (v := v120) (MX.put (K := 30) (i := v97.toNatClampNeg) (v := x2) (MX.put (K := 29) (i := x1.toNatClampNeg) (v := v102) (MX.putf (k := 0) (v := sjn68_0) (MX.putf (k := 0) (v := sjn7_0) M (fun lo hi hm => by simp only [mfl, List.mem_cons, Prod.mk.injEq, List.not_mem_nil, or_false] at hm; omega)) (fun lo hi hm => by simp only [mfl, List.mem_cons, Prod.mk.injEq, List.not_mem_nil, or_false] at hm; omega)) (fun lo hi hm => by simp only [mrl, List.mem_cons, Prod.mk.injEq, List.not_mem_nil, or_false] at hm; omega) (by decide) (fun z => absurd z (by decide)) (Or.inl rfl)) (fun lo hi hm => by simp only [mrl, List.mem_cons, Prod.mk.injEq, List.not_mem_nil, or_false] at hm; omega) (by decide) (fun z => absurd z (by decide)) (Or.inl rfl)) (fun lo hi hm => by simp only [mrl, List.mem_cons, Prod.mk.injEq, List.not_mem_nil, or_false] at hm; omega) (by decide) (fun z => absurd z (by decide)) (Or.inl rfl)) (fun lo hi hm => by simp only [mrl, List.mem_cons, Prod.mk.injEq, List.not_mem_nil, or_false] at hm; omega) (by decide) (fun z => absurd z (by decide)) (Or.inl rfl)) (fun lo hi hm => by simp only [mrl, List.mem_cons, Prod.mk.injEq, List.not_mem_nil, or_false] at hm; omega) (by decide) (fun z => absurd z (by decide)) (Or.inl rfl)) (fun lo hi hm => by simp only [mrl, List.mem_cons, Prod.mk.injEq, List.not_mem_nil, or_false] at hm; omega) (by decide) (fun z => absurd z (by decide)) (Or.inl rfl)), ⟨_, rfl⟩⟩)
                            · skip
                              refine q_aload rfl (by decide) ?_
                              refine m_gfr S (n := 108) (by decide) ?_
                              refine v_iconst (k := 3) rfl (fun v125 e126 => ?_)
                              refine q_iload rfl ?_
                              refine v_imul' e126 (by omega) (fun v127 e128 => ?_)
                              refine q_aload rfl (by decide) ?_
                              refine m_gfr S (n := 36) (by decide) ?_
                              refine q_iload rfl ?_
                              refine m_ald (k := 14) (n := 36) S (by decide) (by omega) (by omega) ?_
                              rw [show (x_u2 (x_u2 (x_u2 (x_u2 (x_u2 (x_u2 (x_u2 (x_u2 F 8 0 sjn7_0) 8 0 sjn68_0) 29 x1.toNatClampNeg v102) 30 v97.toNatClampNeg x2) 34 v97.toNatClampNeg v120) 33 v97.toNatClampNeg v122) 31 v97.toNatClampNeg x4) 32 v97.toNatClampNeg x5) 33 v97.toNatClampNeg = v122 from (by rw [u2_ne (by decide), u2_ne (by decide), u2_eq])]
                              show x_seq _ _ _ _ ([.inr (.inr (8, 1)), .inl x1, .inl x2, .inl x3, .inl x4, .inl x5, .inl yjn4_6, .inl yjn7_7, .inl v97, .inl ylp24_9, .inl yjn65_10, zjn65_11], [.inl v122, .inl v127, .inr (.inr (35, 1))], mh h (x_u2 (x_u2 (x_u2 (x_u2 (x_u2 (x_u2 (x_u2 (x_u2 F 8 0 sjn7_0) 8 0 sjn68_0) 29 x1.toNatClampNeg v102) 30 v97.toNatClampNeg x2) 34 v97.toNatClampNeg v120) 33 v97.toNatClampNeg v122) 31 v97.toNatClampNeg x4) 32 v97.toNatClampNeg x5))
                              refine v_iadd (by omega) (fun v129 e130 => ?_)
                              refine q_iload rfl ?_
                              refine m_ast (k := 16) (n := 108) S (by decide) (by omega) (by omega) ?_
                              show x_seq _ _ _ _ ([.inr (.inr (8, 1)), .inl x1, .inl x2, .inl x3, .inl x4, .inl x5, .inl yjn4_6, .inl yjn7_7, .inl v97, .inl ylp24_9, .inl yjn65_10, zjn65_11], [], mh h (x_u2 (x_u2 (x_u2 (x_u2 (x_u2 (x_u2 (x_u2 (x_u2 (x_u2 F 8 0 sjn7_0) 8 0 sjn68_0) 29 x1.toNatClampNeg v102) 30 v97.toNatClampNeg x2) 34 v97.toNatClampNeg v120) 33 v97.toNatClampNeg v122) 31 v97.toNatClampNeg x4) 32 v97.toNatClampNeg x5) 35 v129.toNatClampNeg x3))
                              refine q_aload rfl (by decide) ?_
                              refine m_gfr S (n := 36) (by decide) ?_
                              refine q_iload rfl ?_
                              refine q_dup2 rfl rfl ?_
                              refine m_ald (k := 14) (n := 36) S (by decide) (by omega) (by omega) ?_
                              rw [show (x_u2 (x_u2 (x_u2 (x_u2 (x_u2 (x_u2 (x_u2 (x_u2 (x_u2 F 8 0 sjn7_0) 8 0 sjn68_0) 29 x1.toNatClampNeg v102) 30 v97.toNatClampNeg x2) 34 v97.toNatClampNeg v120) 33 v97.toNatClampNeg v122) 31 v97.toNatClampNeg x4) 32 v97.toNatClampNeg x5) 35 v129.toNatClampNeg x3) 33 v97.toNatClampNeg = v122 from (by rw [u2_ne (by decide), u2_ne (by decide), u2_ne (by decide), u2_eq])]
                              show x_seq _ _ _ _ ([.inr (.inr (8, 1)), .inl x1, .inl x2, .inl x3, .inl x4, .inl x5, .inl yjn4_6, .inl yjn7_7, .inl v97, .inl ylp24_9, .inl yjn65_10, zjn65_11], [.inl v122, .inl v97, .inr (.inr (33, 1))], mh h (x_u2 (x_u2 (x_u2 (x_u2 (x_u2 (x_u2 (x_u2 (x_u2 (x_u2 F 8 0 sjn7_0) 8 0 sjn68_0) 29 x1.toNatClampNeg v102) 30 v97.toNatClampNeg x2) 34 v97.toNatClampNeg v120) 33 v97.toNatClampNeg v122) 31 v97.toNatClampNeg x4) 32 v97.toNatClampNeg x5) 35 v129.toNatClampNeg x3))
                              refine v_iconst (k := 1) rfl (fun v131 e132 => ?_)
                              refine v_iadd (by omega) (fun v133 e134 => ?_)
                              refine m_ast (k := 14) (n := 36) S (by decide) (by omega) (by omega) ?_
                              show x_seq _ _ _ _ ([.inr (.inr (8, 1)), .inl x1, .inl x2, .inl x3, .inl x4, .inl x5, .inl yjn4_6, .inl yjn7_7, .inl v97, .inl ylp24_9, .inl yjn65_10, zjn65_11], [], mh h (x_u2 (x_u2 (x_u2 (x_u2 (x_u2 (x_u2 (x_u2 (x_u2 (x_u2 (x_u2 F 8 0 sjn7_0) 8 0 sjn68_0) 29 x1.toNatClampNeg v102) 30 v97.toNatClampNeg x2) 34 v97.toNatClampNeg v120) 33 v97.toNatClampNeg v122) 31 v97.toNatClampNeg x4) 32 v97.toNatClampNeg x5) 35 v129.toNatClampNeg x3) 33 v97.toNatClampNeg v133))
                              refine q_goto ?_
                              refine xR.blk c97_458 ?_
                              refine q_aload rfl (by decide) ?_
                              refine m_gfr S (n := 36) (by decide) ?_
                              refine q_iload rfl ?_
                              refine m_ald (k := 14) (n := 36) S (by decide) (by omega) (by omega) ?_
                              rw [show (x_u2 (x_u2 (x_u2 (x_u2 (x_u2 (x_u2 (x_u2 (x_u2 (x_u2 (x_u2 F 8 0 sjn7_0) 8 0 sjn68_0) 29 x1.toNatClampNeg v102) 30 v97.toNatClampNeg x2) 34 v97.toNatClampNeg v120) 33 v97.toNatClampNeg v122) 31 v97.toNatClampNeg x4) 32 v97.toNatClampNeg x5) 35 v129.toNatClampNeg x3) 33 v97.toNatClampNeg v133) 33 v97.toNatClampNeg = v133 from (by rw [u2_eq])]
                              show x_seq _ _ _ _ ([.inr (.inr (8, 1)), .inl x1, .inl x2, .inl x3, .inl x4, .inl x5, .inl yjn4_6, .inl yjn7_7, .inl v97, .inl ylp24_9, .inl yjn65_10, zjn65_11], [.inl v133], mh h (x_u2 (x_u2 (x_u2 (x_u2 (x_u2 (x_u2 (x_u2 (x_u2 (x_u2 (x_u2 F 8 0 sjn7_0) 8 0 sjn68_0) 29 x1.toNatClampNeg v102) 30 v97.toNatClampNeg x2) 34 v97.toNatClampNeg v120) 33 v97.toNatClampNeg v122) 31 v97.toNatClampNeg x4) 32 v97.toNatClampNeg x5) 35 v129.toNatClampNeg x3) 33 v97.toNatClampNeg v133))
                              exact q_iret (hZ _ _ ⟨(MX.put (K := 33) (i := v97.toNatClampNeg) (v := v133) (MX.put (K := 35) (i := v129.toNatClampNeg) (v := x3) (MX.put (K := 32) (i := v97.toNatClampNeg) (v := x5) (MX.put (K := 31) (i := v97.toNatClampNeg) (v := x4) (MX.put (K := 33) (i := v97.toNatClampNeg) (v := v122) (MX.put (K := 34) (i := v97.toNatClampNeg) (v := v120) (MX.put (K := 30) (i := v97.toNatClampNeg) (v := x2) (MX.put (K := 29) (i := x1.toNatClampNeg) (v := v102) (MX.putf (k := 0) (v := sjn68_0) (MX.putf (k := 0) (v := sjn7_0) M (fun lo hi hm => by simp only [mfl, List.mem_cons, Prod.mk.injEq, List.not_mem_nil, or_false] at hm; omega)) (fun lo hi hm => by simp only [mfl, List.mem_cons, Prod.mk.injEq, List.not_mem_nil, or_false] at hm; omega)) (fun lo hi hm => by simp only [mrl, List.mem_cons, Prod.mk.injEq, List.not_mem_nil, or_false] at hm; omega) (by decide) (fun z => absurd z (by decide)) (Or.inl rfl)) (fun lo hi hm => by simp only [mrl, List.mem_cons, Prod.mk.injEq, List.not_mem_nil, or_false] at hm; omega) (by decide) (fun z => absurd z (by decide)) (Or.inl rfl)) (fun lo hi hm => by simp only [mrl, List.mem_cons, Prod.mk.injEq, List.not_mem_nil, or_false] at hm; omega) (by decide) (fun z => absurd z (by decide)) (Or.inl rfl)) (fun lo hi hm => by simp only [mrl, List.mem_cons, Prod.mk.injEq, List.not_mem_nil, or_false] at hm; omega) (by decide) (fun z => absurd z (by decide)) (Or.inl rfl)) (fun lo hi hm => by simp only [mrl, List.mem_cons, Prod.mk.injEq, List.not_mem_nil, or_false] at hm; omega) (by decide) (fun z => absurd z (by decide)) (Or.inl rfl)) (fun lo hi hm => by simp only [mrl, List.mem_cons, Prod.mk.injEq, List.not_mem_nil, or_false] at hm; omega) (by decide) (fun z => absurd z (by decide)) (Or.inl rfl)) (fun lo hi hm => by simp only [mrl, List.mem_cons, Prod.mk.injEq, List.not_mem_nil, or_false] at hm; omega) (by decide) (fun z => absurd z (by decide)) (Or.inl rfl)) (fun lo hi hm => by simp only [mrl, List.mem_cons, Prod.mk.injEq, List.not_mem_nil, or_false] at hm; omega) (by decide) (fun z => absurd z (by decide)) (Or.inl rfl)), ⟨_, rfl⟩⟩)
                      · skip
                        refine v_iconst (k := 0) rfl (fun v135 e136 => ?_)
                        exact q_iret (hZ _ _ ⟨(MX.putf (k := 0) (v := sjn68_0) (MX.putf (k := 0) (v := sjn7_0) M (fun lo hi hm => by simp only [mfl, List.mem_cons, Prod.mk.injEq, List.not_mem_nil, or_false] at hm; omega)) (fun lo hi hm => by simp only [mfl, List.mem_cons, Prod.mk.injEq, List.not_mem_nil, or_false] at hm; omega)), ⟨_, rfl⟩⟩)
                    refine xR.blk c97_326 ?_
                    refine q_aload rfl (by decide) ?_
                    refine q_iload rfl ?_
                    refine v_if_eq (fun d137 => ?_) (fun d137 => ?_)
                    · skip
                      refine xR.blk c97_336 ?_
                      refine v_iconst (k := 0) rfl (fun v138 e139 => ?_)
                      refine q_goto ?_
                      exact (jn68 v138 (by omega) (by omega)).up (by omega)
                    · skip
                      refine v_iconst (k := 2) rfl (fun v140 e141 => ?_)
                      refine q_goto ?_
                      exact (jn68 v140 (by omega) (by omega)).up (by omega)
                  have jn142 : ∀ (yjn142_10 : Int32) (sjn142_0 : Int32), (0 ≤ ylp24_8.toInt) → (sjn142_0.toInt = 0 → (F 33 ylp24_8.toNatClampNeg).toInt ≤ 2) → xR (2000) 97 275 ([.inr (.inr (8, 1)), .inl x1, .inl x2, .inl x3, .inl x4, .inl x5, .inl yjn4_6, .inl yjn7_7, .inl ylp24_8, .inl ylp24_9, .inl yjn142_10, .inr (.inr (0, 0))], [.inl sjn142_0], mh h (x_u2 F 8 0 sjn7_0)) Z := by
                    intro yjn142_10 sjn142_0 kjn142_0 kjn142_1
                    refine xR.blk c97_275 ?_
                    refine q_istore (Nat.le_of_ble_eq_true rfl) ?_
                    show x_seq _ _ _ _ ([.inr (.inr (8, 1)), .inl x1, .inl x2, .inl x3, .inl x4, .inl x5, .inl yjn4_6, .inl yjn7_7, .inl ylp24_8, .inl ylp24_9, .inl sjn142_0, .inr (.inr (0, 0))], [], mh h (x_u2 F 8 0 sjn7_0))
                    refine v_iconst (k := 0) rfl (fun v145 e146 => ?_)
                    refine q_istore (Nat.le_of_ble_eq_true rfl) ?_
                    show x_seq _ _ _ _ ([.inr (.inr (8, 1)), .inl x1, .inl x2, .inl x3, .inl x4, .inl x5, .inl yjn4_6, .inl yjn7_7, .inl ylp24_8, .inl ylp24_9, .inl sjn142_0, .inl v145], [], mh h (x_u2 F 8 0 sjn7_0))
                    refine q_goto ?_
                    have lp147 : ∀ (m148 : Nat) (ylp147_10 : Int32) (ylp147_11 : Int32), (0 ≤ ylp147_11.toInt ∧ ylp147_11.toInt ≤ 3) → (ylp147_10.toInt = 0 → (F 33 ylp24_8.toNatClampNeg).toInt ≤ 2) → (3 - ylp147_11.toInt).toNat < m148 → xR (1100 + 20 * m148) 97 280 ([.inr (.inr (8, 1)), .inl x1, .inl x2, .inl x3, .inl x4, .inl x5, .inl yjn4_6, .inl yjn7_7, .inl ylp24_8, .inl ylp24_9, .inl ylp147_10, .inl ylp147_11], [], mh h (x_u2 F 8 0 sjn7_0)) Z := by
                      intro m148
                      induction m148 with
                      | zero => intro ylp147_10 ylp147_11 klp147_0 klp147_1 kmlp147; exact absurd kmlp147 (by omega)
                      | succ m148 ih149 =>
                        intro ylp147_10 ylp147_11 klp147_0 klp147_1 kmlp147
                        rw [show 1100 + 20 * (m148 + 1) = 1100 + 20 * m148 + 20 by omega]
                        refine xR.blk c97_280 ?_
                        refine q_iload rfl ?_
                        refine q_aload rfl (by decide) ?_
                        refine m_gfr S (n := 36) (by decide) ?_
                        refine q_iload rfl ?_
                        refine m_ald (k := 14) (n := 36) S (by decide) (by omega) (by omega) ?_
                        have e150 : 0 ≤ (F 33 ylp24_8.toNatClampNeg).toInt ∧ (F 33 ylp24_8.toNatClampNeg).toInt ≤ 3 := M.rg (lo := 0) (hi := 3) (by decide) _
                        show x_seq _ _ _ _ ([.inr (.inr (8, 1)), .inl x1, .inl x2, .inl x3, .inl x4, .inl x5, .inl yjn4_6, .inl yjn7_7, .inl ylp24_8, .inl ylp24_9, .inl ylp147_10, .inl ylp147_11], [.inl (F 33 ylp24_8.toNatClampNeg), .inl ylp147_11], mh h (x_u2 F 8 0 sjn7_0))
                        refine v_icmp_ge (fun d151 => ?_) (fun d151 => ?_)
                        · skip
                          exact (jn65 ylp147_10 (.inl ylp147_11) (by omega)).up (by omega)
                        · skip
                          refine q_iload rfl ?_
                          refine v_if_ne (fun d152 => ?_) (fun d152 => ?_)
                          · skip
                            refine xR.blk c97_313 ?_
                            refine v_iconst (k := 1) rfl (fun v153 e154 => ?_)
                            refine q_goto ?_
                            refine xR.blk c97_318 ?_
                            refine q_istore (Nat.le_of_ble_eq_true rfl) ?_
                            show x_seq _ _ _ _ ([.inr (.inr (8, 1)), .inl x1, .inl x2, .inl x3, .inl x4, .inl x5, .inl yjn4_6, .inl yjn7_7, .inl ylp24_8, .inl ylp24_9, .inl v153, .inl ylp147_11], [], mh h (x_u2 F 8 0 sjn7_0))
                            refine v_iinc (k := 1) rfl rfl (by omega) (by omega) (fun v155 e156 => ?_)
                            show x_seq _ _ _ _ ([.inr (.inr (8, 1)), .inl x1, .inl x2, .inl x3, .inl x4, .inl x5, .inl yjn4_6, .inl yjn7_7, .inl ylp24_8, .inl ylp24_9, .inl v153, .inl v155], [], mh h (x_u2 F 8 0 sjn7_0))
                            refine q_goto ?_
                            exact (ih149 v153 v155 (by omega) (by omega) (by omega)).up (by omega)
                          · skip
                            refine q_aload rfl (by decide) ?_
                            refine m_gfr S (n := 108) (by decide) ?_
                            refine v_iconst (k := 3) rfl (fun v157 e158 => ?_)
                            refine q_iload rfl ?_
                            refine v_imul' e158 (by omega) (fun v159 e160 => ?_)
                            refine q_iload rfl ?_
                            refine v_iadd (by omega) (fun v161 e162 => ?_)
                            refine m_ald (k := 16) (n := 108) S (by decide) (by omega) (by omega) ?_
                            have e163 : 0 ≤ (F 35 v161.toNatClampNeg).toInt ∧ (F 35 v161.toNatClampNeg).toInt ≤ 2 := M.rg (lo := 0) (hi := 2) (by decide) _
                            show x_seq _ _ _ _ ([.inr (.inr (8, 1)), .inl x1, .inl x2, .inl x3, .inl x4, .inl x5, .inl yjn4_6, .inl yjn7_7, .inl ylp24_8, .inl ylp24_9, .inl ylp147_10, .inl ylp147_11], [.inl (F 35 v161.toNatClampNeg)], mh h (x_u2 F 8 0 sjn7_0))
                            refine q_iload rfl ?_
                            refine v_icmp_ne (fun d164 => ?_) (fun d164 => ?_)
                            · skip
                              refine xR.blk c97_317 ?_
                              refine v_iconst (k := 0) rfl (fun v165 e166 => ?_)
                              refine q_goto ?_
                              refine xR.blk c97_318 ?_
                              refine q_istore (Nat.le_of_ble_eq_true rfl) ?_
                              show x_seq _ _ _ _ ([.inr (.inr (8, 1)), .inl x1, .inl x2, .inl x3, .inl x4, .inl x5, .inl yjn4_6, .inl yjn7_7, .inl ylp24_8, .inl ylp24_9, .inl v165, .inl ylp147_11], [], mh h (x_u2 F 8 0 sjn7_0))
                              refine v_iinc (k := 1) rfl rfl (by omega) (by omega) (fun v167 e168 => ?_)
                              show x_seq _ _ _ _ ([.inr (.inr (8, 1)), .inl x1, .inl x2, .inl x3, .inl x4, .inl x5, .inl yjn4_6, .inl yjn7_7, .inl ylp24_8, .inl ylp24_9, .inl v165, .inl v167], [], mh h (x_u2 F 8 0 sjn7_0))
                              refine q_goto ?_
                              exact (ih149 v165 v167 (by omega) (by omega) (by omega)).up (by omega)
                            · skip
                              refine q_goto ?_
                              refine xR.blk c97_313 ?_
                              refine v_iconst (k := 1) rfl (fun v169 e170 => ?_)
                              refine q_goto ?_
                              refine xR.blk c97_318 ?_
                              refine q_istore (Nat.le_of_ble_eq_true rfl) ?_
                              show x_seq _ _ _ _ ([.inr (.inr (8, 1)), .inl x1, .inl x2, .inl x3, .inl x4, .inl x5, .inl yjn4_6, .inl yjn7_7, .inl ylp24_8, .inl ylp24_9, .inl v169, .inl ylp147_11], [], mh h (x_u2 F 8 0 sjn7_0))
                              refine v_iinc (k := 1) rfl rfl (by omega) (by omega) (fun v171 e172 => ?_)
                              show x_seq _ _ _ _ ([.inr (.inr (8, 1)), .inl x1, .inl x2, .inl x3, .inl x4, .inl x5, .inl yjn4_6, .inl yjn7_7, .inl ylp24_8, .inl ylp24_9, .inl v169, .inl v171], [], mh h (x_u2 F 8 0 sjn7_0))
                              refine q_goto ?_
                              exact (ih149 v169 v171 (by omega) (by omega) (by omega)).up (by omega)
                    exact (lp147 4 sjn142_0 v145 (by omega) (by omega) (by omega)).up (by omega)
                  refine xR.blk c97_232 ?_
                  refine q_istore (Nat.le_of_ble_eq_true rfl) ?_
                  show x_seq _ _ _ _ ([.inr (.inr (8, 1)), .inl x1, .inl x2, .inl x3, .inl x4, .inl x5, .inl yjn4_6, .inl yjn7_7, .inl ylp24_8, .inl ylp24_9, .inl sjn62_0, .inr (.inr (0, 0))], [], mh h (x_u2 F 8 0 sjn7_0))
                  refine q_iload rfl ?_
                  refine v_if_lt (fun d173 => ?_) (fun d173 => ?_)
                  · skip
                    exact (jn65 sjn62_0 (.inr (.inr (0, 0))) (by omega)).up (by omega)
                  · skip
                    refine q_iload rfl ?_
                    refine v_if_ne (fun d174 => ?_) (fun d174 => ?_)
                    · skip
                      refine xR.blk c97_270 ?_
                      refine v_iconst (k := 1) rfl (fun v175 e176 => ?_)
                      refine q_goto ?_
                      exact (jn142 sjn62_0 v175 (by omega) (by omega)).up (by omega)
                    · skip
                      refine q_aload rfl (by decide) ?_
                      refine m_gfr S (n := 36) (by decide) ?_
                      refine q_iload rfl ?_
                      refine m_ald (k := 15) (n := 36) S (by decide) (by omega) (by omega) ?_
                      show x_seq _ _ _ _ ([.inr (.inr (8, 1)), .inl x1, .inl x2, .inl x3, .inl x4, .inl x5, .inl yjn4_6, .inl yjn7_7, .inl ylp24_8, .inl ylp24_9, .inl sjn62_0, .inr (.inr (0, 0))], [.inl (F 34 ylp24_8.toNatClampNeg)], mh h (x_u2 F 8 0 sjn7_0))
                      refine v_if_ne (fun d177 => ?_) (fun d177 => ?_)
                      · skip
                        refine xR.blk c97_270 ?_
                        refine v_iconst (k := 1) rfl (fun v178 e179 => ?_)
                        refine q_goto ?_
                        exact (jn142 sjn62_0 v178 (by omega) (by omega)).up (by omega)
                      · skip
                        refine q_iload rfl ?_
                        refine q_iload rfl ?_
                        refine v_icmp_eq (fun d180 => ?_) (fun d180 => ?_)
                        · skip
                          refine xR.blk c97_270 ?_
                          refine v_iconst (k := 1) rfl (fun v181 e182 => ?_)
                          refine q_goto ?_
                          exact (jn142 sjn62_0 v181 (by omega) (by omega)).up (by omega)
                        · skip
                          refine q_aload rfl (by decide) ?_
                          refine m_gfr S (n := 36) (by decide) ?_
                          refine q_iload rfl ?_
                          refine m_ald (k := 14) (n := 36) S (by decide) (by omega) (by omega) ?_
                          have e183 : 0 ≤ (F 33 ylp24_8.toNatClampNeg).toInt ∧ (F 33 ylp24_8.toNatClampNeg).toInt ≤ 3 := M.rg (lo := 0) (hi := 3) (by decide) _
                          show x_seq _ _ _ _ ([.inr (.inr (8, 1)), .inl x1, .inl x2, .inl x3, .inl x4, .inl x5, .inl yjn4_6, .inl yjn7_7, .inl ylp24_8, .inl ylp24_9, .inl sjn62_0, .inr (.inr (0, 0))], [.inl (F 33 ylp24_8.toNatClampNeg)], mh h (x_u2 F 8 0 sjn7_0))
                          refine v_iconst (k := 3) rfl (fun v184 e185 => ?_)
                          refine v_icmp_ne (fun d186 => ?_) (fun d186 => ?_)
                          · skip
                            refine xR.blk c97_274 ?_
                            refine v_iconst (k := 0) rfl (fun v187 e188 => ?_)
                            refine q_goto ?_
                            exact (jn142 sjn62_0 v187 (by omega) (by omega)).up (by omega)
                          · skip
                            refine q_goto ?_
                            refine xR.blk c97_270 ?_
                            refine v_iconst (k := 1) rfl (fun v189 e190 => ?_)
                            refine q_goto ?_
                            exact (jn142 sjn62_0 v189 (by omega) (by omega)).up (by omega)
                refine xR.blk c97_206 ?_
                refine q_iload rfl ?_
                refine v_if_ne (fun d191 => ?_) (fun d191 => ?_)
                · skip
                  refine xR.blk c97_227 ?_
                  refine v_iconst (k := 1) rfl (fun v192 e193 => ?_)
                  refine q_goto ?_
                  exact (jn62 v192 (by omega) (by omega)).up (by omega)
                · skip
                  refine q_iload rfl ?_
                  refine v_if_ge (fun d194 => ?_) (fun d194 => ?_)
                  · skip
                    refine xR.blk c97_231 ?_
                    refine v_iconst (k := 0) rfl (fun v195 e196 => ?_)
                    refine q_goto ?_
                    exact (jn62 v195 (by omega) (by omega)).up (by omega)
                  · skip
                    refine q_aload rfl (by decide) ?_
                    refine m_gfr S (n := 3) (by decide) ?_
                    refine q_iload rfl ?_
                    refine m_ald (k := 10) (n := 3) S (by decide) (by omega) (by omega) ?_
                    have e197 : 0 ≤ (F 29 x1.toNatClampNeg).toInt ∧ (F 29 x1.toNatClampNeg).toInt ≤ 12 := M.rg (lo := 0) (hi := 12) (by decide) _
                    show x_seq _ _ _ _ ([.inr (.inr (8, 1)), .inl x1, .inl x2, .inl x3, .inl x4, .inl x5, .inl yjn4_6, .inl yjn7_7, .inl ylp24_8, .inl ylp24_9, .inl ylp24_10, .inr (.inr (0, 0))], [.inl (F 29 x1.toNatClampNeg)], mh h (x_u2 F 8 0 sjn7_0))
                    refine v_iconst (k := 12) rfl (fun v198 e199 => ?_)
                    refine v_icmp_ne (fun d200 => ?_) (fun d200 => ?_)
                    · skip
                      refine xR.blk c97_231 ?_
                      refine v_iconst (k := 0) rfl (fun v201 e202 => ?_)
                      refine q_goto ?_
                      exact (jn62 v201 (by omega) (by omega)).up (by omega)
                    · skip
                      refine q_goto ?_
                      refine xR.blk c97_227 ?_
                      refine v_iconst (k := 1) rfl (fun v203 e204 => ?_)
                      refine q_goto ?_
                      exact (jn62 v203 (by omega) (by omega)).up (by omega)
              · skip
                refine q_aload rfl (by decide) ?_
                refine m_gfr S (n := 36) (by decide) ?_
                refine q_iload rfl ?_
                refine m_ald (k := 11) (n := 36) S (by decide) (by omega) (by omega) ?_
                show x_seq _ _ _ _ ([.inr (.inr (8, 1)), .inl x1, .inl x2, .inl x3, .inl x4, .inl x5, .inl yjn4_6, .inl yjn7_7, .inl ylp24_8, .inl ylp24_9, .inl ylp24_10, .inr (.inr (0, 0))], [.inl (F 30 ylp24_10.toNatClampNeg)], mh h (x_u2 F 8 0 sjn7_0))
                refine q_iload rfl ?_
                refine v_icmp_ne (fun d205 => ?_) (fun d205 => ?_)
                · skip
                  refine xR.blk c97_159 ?_
                  refine q_iload rfl ?_
                  refine q_goto ?_
                  exact (jn27 ylp24_8 (by omega) (by omega)).up (by omega)
                · skip
                  refine q_iload rfl ?_
                  refine q_goto ?_
                  exact (jn27 ylp24_10 (by omega) (by omega)).up (by omega)
          exact (lp24 13 v16 v18 v22 (by omega) (by omega) (by omega)).up (by omega)
        · skip
          refine v_iconst (k := 0) rfl (fun v206 e207 => ?_)
          exact q_iret (hZ _ _ ⟨(MX.putf (k := 0) (v := sjn7_0) M (fun lo hi hm => by simp only [mfl, List.mem_cons, Prod.mk.injEq, List.not_mem_nil, or_false] at hm; omega)), ⟨_, rfl⟩⟩)
      refine xR.blk c97_94 ?_
      refine q_istore (Nat.le_of_ble_eq_true rfl) ?_
      show x_seq _ _ _ _ ([.inr (.inr (8, 1)), .inl x1, .inl x2, .inl x3, .inl x4, .inl x5, .inl yjn4_6, .inl sjn4_0, .inr (.inr (0, 0)), .inr (.inr (0, 0)), .inr (.inr (0, 0)), .inr (.inr (0, 0))], [], mh h F)
      refine q_aload rfl (by decide) ?_
      refine q_iload rfl ?_
      refine v_if_eq (fun d208 => ?_) (fun d208 => ?_)
      · skip
        refine xR.blk c97_106 ?_
        refine v_iconst (k := 1) rfl (fun v209 e210 => ?_)
        refine q_goto ?_
        exact (jn7 sjn4_0 v209 (by omega) (by omega)).up (by omega)
      · skip
        refine v_iconst (k := 0) rfl (fun v211 e212 => ?_)
        refine q_goto ?_
        exact (jn7 sjn4_0 v211 (by omega) (by omega)).up (by omega)
    refine xR.blk c97_41 ?_
    refine q_istore (Nat.le_of_ble_eq_true rfl) ?_
    show x_seq _ _ _ _ ([.inr (.inr (8, 1)), .inl x1, .inl x2, .inl x3, .inl x4, .inl x5, .inl sjn1_0, .inr (.inr (0, 0)), .inr (.inr (0, 0)), .inr (.inr (0, 0)), .inr (.inr (0, 0)), .inr (.inr (0, 0))], [], mh h F)
    refine q_iload rfl ?_
    refine v_iconst (k := 0) rfl (fun v213 e214 => ?_)
    refine v_iconst (k := 2) rfl (fun v215 e216 => ?_)
    refine q_call (Nat.le_of_ble_eq_true rfl) (Nat.le_of_ble_eq_true rfl) (by show x_ce h + 0 ≤ 0; rw [S.2.2.1]; exact Nat.le_refl 0) (by show x_so h + 0 ≤ 0; rw [S.2.2.2]; exact Nat.le_refl 0) ?_
    refine xC.up (tv92 (h := x_setc h 0 0) (F := F) (x0 := x1) (x1 := v213) (x2 := v215) S.set  (fun o217 F218 hp => ?_)) (by omega)
    obtain ⟨hF221, ⟨v220, rfl, q219⟩⟩ := hp
    rw [hF221]
    show x_seq _ _ _ _ ([.inr (.inr (8, 1)), .inl x1, .inl x2, .inl x3, .inl x4, .inl x5, .inl sjn1_0, .inr (.inr (0, 0)), .inr (.inr (0, 0)), .inr (.inr (0, 0)), .inr (.inr (0, 0)), .inr (.inr (0, 0))], [.inl v220], mh h F)
    refine v_if_eq (fun d222 => ?_) (fun d222 => ?_)
    · skip
      refine xR.blk c97_93 ?_
      refine v_iconst (k := 0) rfl (fun v223 e224 => ?_)
      refine q_goto ?_
      exact (jn4 sjn1_0 v223 (by omega) (by omega)).up (by omega)
    · skip
      refine q_iload rfl ?_
      refine v_if_eq (fun d225 => ?_) (fun d225 => ?_)
      · skip
        refine xR.blk c97_93 ?_
        refine v_iconst (k := 0) rfl (fun v226 e227 => ?_)
        refine q_goto ?_
        exact (jn4 sjn1_0 v226 (by omega) (by omega)).up (by omega)
      · skip
        refine q_iload rfl ?_
        refine v_iconst (k := 0) rfl (fun v228 e229 => ?_)
        refine v_iconst (k := 2) rfl (fun v230 e231 => ?_)
        refine q_call (Nat.le_of_ble_eq_true rfl) (Nat.le_of_ble_eq_true rfl) (by show x_ce h + 0 ≤ 0; rw [S.2.2.1]; exact Nat.le_refl 0) (by show x_so h + 0 ≤ 0; rw [S.2.2.2]; exact Nat.le_refl 0) ?_
        refine xC.up (tv92 (h := x_setc h 0 0) (F := F) (x0 := x3) (x1 := v228) (x2 := v230) S.set  (fun o232 F233 hp => ?_)) (by omega)
        obtain ⟨hF236, ⟨v235, rfl, q234⟩⟩ := hp
        rw [hF236]
        show x_seq _ _ _ _ ([.inr (.inr (8, 1)), .inl x1, .inl x2, .inl x3, .inl x4, .inl x5, .inl sjn1_0, .inr (.inr (0, 0)), .inr (.inr (0, 0)), .inr (.inr (0, 0)), .inr (.inr (0, 0)), .inr (.inr (0, 0))], [.inl v235], mh h F)
        refine v_if_eq (fun d237 => ?_) (fun d237 => ?_)
        · skip
          refine xR.blk c97_93 ?_
          refine v_iconst (k := 0) rfl (fun v238 e239 => ?_)
          refine q_goto ?_
          exact (jn4 sjn1_0 v238 (by omega) (by omega)).up (by omega)
        · skip
          refine q_iload rfl ?_
          refine v_iconst (k := 0) rfl (fun v240 e241 => ?_)
          refine v_iconst (k := 99) rfl (fun v242 e243 => ?_)
          refine q_call (Nat.le_of_ble_eq_true rfl) (Nat.le_of_ble_eq_true rfl) (by show x_ce h + 0 ≤ 0; rw [S.2.2.1]; exact Nat.le_refl 0) (by show x_so h + 0 ≤ 0; rw [S.2.2.2]; exact Nat.le_refl 0) ?_
          refine xC.up (tv92 (h := x_setc h 0 0) (F := F) (x0 := x4) (x1 := v240) (x2 := v242) S.set  (fun o244 F245 hp => ?_)) (by omega)
          obtain ⟨hF248, ⟨v247, rfl, q246⟩⟩ := hp
          rw [hF248]
          show x_seq _ _ _ _ ([.inr (.inr (8, 1)), .inl x1, .inl x2, .inl x3, .inl x4, .inl x5, .inl sjn1_0, .inr (.inr (0, 0)), .inr (.inr (0, 0)), .inr (.inr (0, 0)), .inr (.inr (0, 0)), .inr (.inr (0, 0))], [.inl v247], mh h F)
          refine v_if_eq (fun d249 => ?_) (fun d249 => ?_)
          · skip
            refine xR.blk c97_93 ?_
            refine v_iconst (k := 0) rfl (fun v250 e251 => ?_)
            refine q_goto ?_
            exact (jn4 sjn1_0 v250 (by omega) (by omega)).up (by omega)
          · skip
            refine q_iload rfl ?_
            refine v_iconst (k := 0) rfl (fun v252 e253 => ?_)
            refine v_iconst (k := 1000) rfl (fun v254 e255 => ?_)
            refine q_call (Nat.le_of_ble_eq_true rfl) (Nat.le_of_ble_eq_true rfl) (by show x_ce h + 0 ≤ 0; rw [S.2.2.1]; exact Nat.le_refl 0) (by show x_so h + 0 ≤ 0; rw [S.2.2.2]; exact Nat.le_refl 0) ?_
            refine xC.up (tv92 (h := x_setc h 0 0) (F := F) (x0 := x5) (x1 := v252) (x2 := v254) S.set  (fun o256 F257 hp => ?_)) (by omega)
            obtain ⟨hF260, ⟨v259, rfl, q258⟩⟩ := hp
            rw [hF260]
            show x_seq _ _ _ _ ([.inr (.inr (8, 1)), .inl x1, .inl x2, .inl x3, .inl x4, .inl x5, .inl sjn1_0, .inr (.inr (0, 0)), .inr (.inr (0, 0)), .inr (.inr (0, 0)), .inr (.inr (0, 0)), .inr (.inr (0, 0))], [.inl v259], mh h F)
            refine v_if_eq (fun d261 => ?_) (fun d261 => ?_)
            · skip
              refine xR.blk c97_93 ?_
              refine v_iconst (k := 0) rfl (fun v262 e263 => ?_)
              refine q_goto ?_
              exact (jn4 sjn1_0 v262 (by omega) (by omega)).up (by omega)
            · skip
              refine v_iconst (k := 1) rfl (fun v264 e265 => ?_)
              refine q_goto ?_
              exact (jn4 sjn1_0 v264 (by omega) (by omega)).up (by omega)
  refine xR.blk c97_0 ?_
  refine q_iload rfl ?_
  refine v_iconst (k := 10) rfl (fun v266 e267 => ?_)
  refine v_iconst (k := 19) rfl (fun v268 e269 => ?_)
  refine q_call (Nat.le_of_ble_eq_true rfl) (Nat.le_of_ble_eq_true rfl) (by show x_ce h + 0 ≤ 0; rw [S.2.2.1]; exact Nat.le_refl 0) (by show x_so h + 0 ≤ 0; rw [S.2.2.2]; exact Nat.le_refl 0) ?_
  refine xC.up (tv92 (h := x_setc h 0 0) (F := F) (x0 := x2) (x1 := v266) (x2 := v268) S.set  (fun o270 F271 hp => ?_)) (by omega)
  obtain ⟨hF274, ⟨v273, rfl, q272⟩⟩ := hp
  rw [hF274]
  show x_seq _ _ _ _ ([.inr (.inr (8, 1)), .inl x1, .inl x2, .inl x3, .inl x4, .inl x5, .inr (.inr (0, 0)), .inr (.inr (0, 0)), .inr (.inr (0, 0)), .inr (.inr (0, 0)), .inr (.inr (0, 0)), .inr (.inr (0, 0))], [.inl v273], mh h F)
  refine v_if_ne (fun d275 => ?_) (fun d275 => ?_)
  · skip
    refine xR.blk c97_36 ?_
    refine v_iconst (k := 1) rfl (fun v276 e277 => ?_)
    refine q_goto ?_
    exact (jn1 v276 ).up (by omega)
  · skip
    refine q_iload rfl ?_
    refine v_iconst (k := 100) rfl (fun v278 e279 => ?_)
    refine v_iconst (k := 199) rfl (fun v280 e281 => ?_)
    refine q_call (Nat.le_of_ble_eq_true rfl) (Nat.le_of_ble_eq_true rfl) (by show x_ce h + 0 ≤ 0; rw [S.2.2.1]; exact Nat.le_refl 0) (by show x_so h + 0 ≤ 0; rw [S.2.2.2]; exact Nat.le_refl 0) ?_
    refine xC.up (tv92 (h := x_setc h 0 0) (F := F) (x0 := x2) (x1 := v278) (x2 := v280) S.set  (fun o282 F283 hp => ?_)) (by omega)
    obtain ⟨hF286, ⟨v285, rfl, q284⟩⟩ := hp
    rw [hF286]
    show x_seq _ _ _ _ ([.inr (.inr (8, 1)), .inl x1, .inl x2, .inl x3, .inl x4, .inl x5, .inr (.inr (0, 0)), .inr (.inr (0, 0)), .inr (.inr (0, 0)), .inr (.inr (0, 0)), .inr (.inr (0, 0)), .inr (.inr (0, 0))], [.inl v285], mh h F)
    refine v_if_ne (fun d287 => ?_) (fun d287 => ?_)
    · skip
      refine xR.blk c97_36 ?_
      refine v_iconst (k := 1) rfl (fun v288 e289 => ?_)
      refine q_goto ?_
      exact (jn1 v288 ).up (by omega)
    · skip
      refine q_iload rfl ?_
      refine v_iconst (k := 1000) rfl (fun v290 e291 => ?_)
      refine v_iconst (k := 1999) rfl (fun v292 e293 => ?_)
      refine q_call (Nat.le_of_ble_eq_true rfl) (Nat.le_of_ble_eq_true rfl) (by show x_ce h + 0 ≤ 0; rw [S.2.2.1]; exact Nat.le_refl 0) (by show x_so h + 0 ≤ 0; rw [S.2.2.2]; exact Nat.le_refl 0) ?_
      refine xC.up (tv92 (h := x_setc h 0 0) (F := F) (x0 := x2) (x1 := v290) (x2 := v292) S.set  (fun o294 F295 hp => ?_)) (by omega)
      obtain ⟨hF298, ⟨v297, rfl, q296⟩⟩ := hp
      rw [hF298]
      show x_seq _ _ _ _ ([.inr (.inr (8, 1)), .inl x1, .inl x2, .inl x3, .inl x4, .inl x5, .inr (.inr (0, 0)), .inr (.inr (0, 0)), .inr (.inr (0, 0)), .inr (.inr (0, 0)), .inr (.inr (0, 0)), .inr (.inr (0, 0))], [.inl v297], mh h F)
      refine v_if_eq (fun d299 => ?_) (fun d299 => ?_)
      · skip
        refine xR.blk c97_40 ?_
        refine v_iconst (k := 0) rfl (fun v300 e301 => ?_)
        refine q_goto ?_
        exact (jn1 v300 ).up (by omega)
      · skip
        refine q_goto ?_
        refine xR.blk c97_36 ?_
        refine v_iconst (k := 1) rfl (fun v302 e303 => ?_)
        refine q_goto ?_
        exact (jn1 v302 ).up (by omega)
