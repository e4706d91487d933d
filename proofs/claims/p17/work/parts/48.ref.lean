theorem tv115 {h : xH} {Z : xO → xH → Prop} {F : xF} {x1 : Int32} {x2 : Int32} {x3 : Int32} (S : MS h) (M : MX 72 F) (hZ : ∀ (o : xO) (F' : xF), (MX 72 F') ∧ (∃ v : Int32, o = .inl (some (.inl v)) ∧ (0 ≤ v.toInt ∧ v.toInt ≤ 1)) → Z o (mh h F')) : xC 100000000000 115 [.inr (.inr (8, 1)), .inl x1, .inl x2, .inl x3] (mh h F) Z := by
  refine ⟨rfl, S.2.2.1, S.2.2.2, ?_⟩
  show xR _ 115 0 ([.inr (.inr (8, 1)), .inl x1, .inl x2, .inl x3, .inr (.inr (0, 0)), .inr (.inr (0, 0)), .inr (.inr (0, 0)), .inr (.inr (0, 0)), .inr (.inr (0, 0))], [], mh h F) Z
  have jn1 : ∀ (sjn1_0 : Int32), (0 ≤ sjn1_0.toInt ∧ sjn1_0.toInt ≤ 1) → (sjn1_0.toInt = 1 → 0 ≤ x1.toInt ∧ x1.toInt ≤ 2 ∧ 0 ≤ x2.toInt ∧ x2.toInt ≤ 23 ∧ 0 ≤ x3.toInt ∧ x3.toInt ≤ 9) → xR (99000000000) 115 23 ([.inr (.inr (8, 1)), .inl x1, .inl x2, .inl x3, .inr (.inr (0, 0)), .inr (.inr (0, 0)), .inr (.inr (0, 0)), .inr (.inr (0, 0)), .inr (.inr (0, 0))], [.inl sjn1_0], mh h F) Z := by
    intro sjn1_0 kjn1_0 kjn1_1
    have jn4 : ∀ (yjn4_4 : Int32) (sjn4_0 : Int32), (0 ≤ sjn4_0.toInt ∧ sjn4_0.toInt ≤ 2) → (sjn4_0.toInt = 0 → 0 ≤ x1.toInt ∧ x1.toInt ≤ 2 ∧ 0 ≤ x2.toInt ∧ x2.toInt ≤ 23 ∧ 0 ≤ x3.toInt ∧ x3.toInt ≤ 9) → xR (98000000000) 115 54 ([.inr (.inr (8, 1)), .inl x1, .inl x2, .inl x3, .inl yjn4_4, .inr (.inr (0, 0)), .inr (.inr (0, 0)), .inr (.inr (0, 0)), .inr (.inr (0, 0))], [.inl sjn4_0, .inr (.inr (8, 1))], mh h F) Z := by
      intro yjn4_4 sjn4_0 kjn4_0 kjn4_1
      refine xR.blk c115_54 ?_
      refine q_callv (j := 1) rfl (by decide) ⟨Nat.le_refl 1, Nat.le_of_eq S.1.symm⟩ (Nat.le_of_ble_eq_true rfl) (Nat.le_of_ble_eq_true rfl) (by show x_ce h + 0 ≤ 0; rw [S.2.2.1]; exact Nat.le_refl 0) (by show x_so h + 0 ≤ 0; rw [S.2.2.2]; exact Nat.le_refl 0) ?_
      refine xC.up (tv91 (h := x_setc h 0 0) (F := F) (x1 := sjn4_0) S.set  (fun o7 F8 hp => ?_)) (by omega)
      obtain ⟨q11, ⟨v10, rfl, q9⟩⟩ := hp
      subst q11
      show x_seq _ _ _ _ ([.inr (.inr (8, 1)), .inl x1, .inl x2, .inl x3, .inl yjn4_4, .inr (.inr (0, 0)), .inr (.inr (0, 0)), .inr (.inr (0, 0)), .inr (.inr (0, 0))], [.inl v10], mh h (x_u2 F 8 0 sjn4_0))
      refine v_if_eq (fun d12 => ?_) (fun d12 => ?_)
      · skip
        refine xR.blk c115_62 ?_
        refine v_iconst (k := 24) rfl (fun v13 e14 => ?_)
        refine q_iload rfl ?_
        refine v_imul' e14 (by omega) (fun v15 e16 => ?_)
        refine q_iload rfl ?_
        refine v_iadd (by omega) (fun v17 e18 => ?_)
        refine q_istore (Nat.le_of_ble_eq_true rfl) ?_
        show x_seq _ _ _ _ ([.inr (.inr (8, 1)), .inl x1, .inl x2, .inl x3, .inl yjn4_4, .inl v17, .inr (.inr (0, 0)), .inr (.inr (0, 0)), .inr (.inr (0, 0))], [], mh h (x_u2 F 8 0 sjn4_0))
        refine q_aload rfl (by decide) ?_
        refine m_gfr S (n := 72) (by decide) ?_
        refine q_iload rfl ?_
        refine m_ald (k := 29) (n := 72) S (by decide) (by omega) (by omega) ?_
        have e19 : 0 ≤ (F 47 v17.toNatClampNeg).toInt ∧ (F 47 v17.toNatClampNeg).toInt ≤ 5 := M.rg (lo := 0) (hi := 5) (by decide) _
        show x_seq _ _ _ _ ([.inr (.inr (8, 1)), .inl x1, .inl x2, .inl x3, .inl yjn4_4, .inl v17, .inr (.inr (0, 0)), .inr (.inr (0, 0)), .inr (.inr (0, 0))], [.inl (F 47 v17.toNatClampNeg)], mh h (x_u2 F 8 0 sjn4_0))
        refine v_iconst (k := 1) rfl (fun v20 e21 => ?_)
        refine v_icmp_eq (fun d22 => ?_) (fun d22 => ?_)
        · skip
          have cc25 := x_clamp (n := v17) (by omega)
          have sl24 : SL F v17.toNatClampNeg := M.2.2.2.1 _ (by omega) (by omega)
          unfold SL at sl24
          have M23 : MX v17.toNatClampNeg F := M.opn (by omega)
          refine xR.blk c115_83 ?_
          refine q_aload rfl (by decide) ?_
          refine m_gfr S (n := 576) (by decide) ?_
          refine v_iconst (k := 8) rfl (fun v26 e27 => ?_)
          refine q_iload rfl ?_
          refine v_imul' e27 (by omega) (fun v28 e29 => ?_)
          refine q_aload rfl (by decide) ?_
          refine m_gfr S (n := 72) (by decide) ?_
          refine q_iload rfl ?_
          refine m_ald (k := 30) (n := 72) S (by decide) (by omega) (by omega) ?_
          have e30 : 0 ≤ (F 48 v17.toNatClampNeg).toInt ∧ (F 48 v17.toNatClampNeg).toInt ≤ 5 := M23.rg (lo := 0) (hi := 5) (by decide) _
          show x_seq _ _ _ _ ([.inr (.inr (8, 1)), .inl x1, .inl x2, .inl x3, .inl yjn4_4, .inl v17, .inr (.inr (0, 0)), .inr (.inr (0, 0)), .inr (.inr (0, 0))], [.inl (F 48 v17.toNatClampNeg), .inl v28, .inr (.inr (49, 1))], mh h (x_u2 F 8 0 sjn4_0))
          refine v_iadd (by omega) (fun v31 e32 => ?_)
          refine q_iload rfl ?_
          refine m_ast (k := 31) (n := 576) S (by decide) (by omega) (by omega) ?_
          show x_seq _ _ _ _ ([.inr (.inr (8, 1)), .inl x1, .inl x2, .inl x3, .inl yjn4_4, .inl v17, .inr (.inr (0, 0)), .inr (.inr (0, 0)), .inr (.inr (0, 0))], [], mh h (x_u2 (x_u2 F 8 0 sjn4_0) 49 v31.toNatClampNeg x3))
          refine q_aload rfl (by decide) ?_
          refine m_gfr S (n := 72) (by decide) ?_
          refine q_iload rfl ?_
          refine q_dup2 rfl rfl ?_
          refine m_ald (k := 30) (n := 72) S (by decide) (by omega) (by omega) ?_
          have e33 : 0 ≤ (F 48 v17.toNatClampNeg).toInt ∧ (F 48 v17.toNatClampNeg).toInt ≤ 5 := M23.rg (lo := 0) (hi := 5) (by decide) _
          show x_seq _ _ _ _ ([.inr (.inr (8, 1)), .inl x1, .inl x2, .inl x3, .inl yjn4_4, .inl v17, .inr (.inr (0, 0)), .inr (.inr (0, 0)), .inr (.inr (0, 0))], [.inl (F 48 v17.toNatClampNeg), .inl v17, .inr (.inr (48, 1))], mh h (x_u2 (x_u2 F 8 0 sjn4_0) 49 v31.toNatClampNeg x3))
          refine v_iconst (k := 1) rfl (fun v34 e35 => ?_)
          refine v_iadd (by omega) (fun v36 e37 => ?_)
          refine m_ast (k := 30) (n := 72) S (by decide) (by omega) (by omega) ?_
          show x_seq _ _ _ _ ([.inr (.inr (8, 1)), .inl x1, .inl x2, .inl x3, .inl yjn4_4, .inl v17, .inr (.inr (0, 0)), .inr (.inr (0, 0)), .inr (.inr (0, 0))], [], mh h (x_u2 (x_u2 (x_u2 F 8 0 sjn4_0) 49 v31.toNatClampNeg x3) 48 v17.toNatClampNeg v36))
          refine q_aload rfl (by decide) ?_
          refine m_gfr S (n := 72) (by decide) ?_
          refine q_iload rfl ?_
          refine v_iconst (k := 0) rfl (fun v38 e39 => ?_)
          refine m_ast (k := 38) (n := 72) S (by decide) (by omega) (by omega) ?_
          show x_seq _ _ _ _ ([.inr (.inr (8, 1)), .inl x1, .inl x2, .inl x3, .inl yjn4_4, .inl v17, .inr (.inr (0, 0)), .inr (.inr (0, 0)), .inr (.inr (0, 0))], [], mh h (x_u2 (x_u2 (x_u2 (x_u2 F 8 0 sjn4_0) 49 v31.toNatClampNeg x3) 48 v17.toNatClampNeg v36) 56 v17.toNatClampNeg v38))
          obtain ⟨F1, hF1⟩ : ∃ F1, F1 = (x_u2 (x_u2 (x_u2 (x_u2 F 8 0 sjn4_0) 49 v31.toNatClampNeg x3) 48 v17.toNatClampNeg v36) 56 v17.toNatClampNeg v38) := ⟨_, rfl⟩
          rw [← hF1]
          have M1 : MX v17.toNatClampNeg F1 := by rw [hF1]; exact (MX.put (K := 56) (i := v17.toNatClampNeg) (v := v38) (MX.put (K := 48) (i := v17.toNatClampNeg) (v := v36) (MX.put (K := 49) (i := v31.toNatClampNeg) (v := x3) (MX.putf (k := 0) (v := sjn4_0) M23 (fun lo hi hm => by simp only [mfl, List.mem_cons, Prod.mk.injEq, List.not_mem_nil, or_false] at hm; omega)) (fun lo hi hm => by simp only [mrl, List.mem_cons, Prod.mk.injEq, List.not_mem_nil, or_false] at hm; omega) (by decide) (fun z => absurd z (by decide)) (Or.inl rfl)) (fun lo hi hm => by simp only [mrl, List.mem_cons, Prod.mk.injEq, List.not_mem_nil, or_false] at hm; omega) (by decide) (fun z => absurd z (by decide)) (Or.inr rfl)) (fun lo hi hm => by simp only [mrl, List.mem_cons, Prod.mk.injEq, List.not_mem_nil, or_false] at hm; omega) (by decide) (fun z => absurd z (by decide)) (Or.inl rfl))
          have kk40 : F1 24 v17.toNatClampNeg = (F 24 v17.toNatClampNeg) := by rw [hF1]; exact (by rw [u2_ne (by decide), u2_ne (by decide), u2_ne (by decide), u2_ne (by decide)])
          have ki41 : (F1 24 v17.toNatClampNeg).toInt = (F 24 v17.toNatClampNeg).toInt := by rw [kk40]
          have kk42 : F1 47 v17.toNatClampNeg = (F 47 v17.toNatClampNeg) := by rw [hF1]; exact (by rw [u2_ne (by decide), u2_ne (by decide), u2_ne (by decide), u2_ne (by decide)])
          have ki43 : (F1 47 v17.toNatClampNeg).toInt = (F 47 v17.toNatClampNeg).toInt := by rw [kk42]
          have kk44 : F1 48 v17.toNatClampNeg = v36 := by rw [hF1]; exact (by rw [u2_ne (by decide), u2_eq])
          have ki45 : (F1 48 v17.toNatClampNeg).toInt = v36.toInt := by rw [kk44]
          have kk46 : F1 55 v17.toNatClampNeg = (F 55 v17.toNatClampNeg) := by rw [hF1]; exact (by rw [u2_ne (by decide), u2_ne (by decide), u2_ne (by decide), u2_ne (by decide)])
          have ki47 : (F1 55 v17.toNatClampNeg).toInt = (F 55 v17.toNatClampNeg).toInt := by rw [kk46]
          have ki48 : mpop (F1 55 v17.toNatClampNeg).toInt = mpop (F 55 v17.toNatClampNeg).toInt := by rw [kk46]
          have kk49 : F1 57 v17.toNatClampNeg = (F 57 v17.toNatClampNeg) := by rw [hF1]; exact (by rw [u2_ne (by decide), u2_ne (by decide), u2_ne (by decide), u2_ne (by decide)])
          have ki50 : (F1 57 v17.toNatClampNeg).toInt = (F 57 v17.toNatClampNeg).toInt := by rw [kk49]
          have kk51 : F1 63 v17.toNatClampNeg = (F 63 v17.toNatClampNeg) := by rw [hF1]; exact (by rw [u2_ne (by decide), u2_ne (by decide), u2_ne (by decide), u2_ne (by decide)])
          have ki52 : (F1 63 v17.toNatClampNeg).toInt = (F 63 v17.toNatClampNeg).toInt := by rw [kk51]
          refine q_aload rfl (by decide) ?_
          refine q_iload rfl ?_
          refine q_iload rfl ?_
          refine q_callv (j := 1) rfl (by decide) ⟨Nat.le_refl 1, Nat.le_of_eq S.1.symm⟩ (Nat.le_of_ble_eq_true rfl) (Nat.le_of_ble_eq_true rfl) (by show x_ce h + 0 ≤ 0; rw [S.2.2.1]; exact Nat.le_refl 0) (by show x_so h + 0 ≤ 0; rw [S.2.2.2]; exact Nat.le_refl 0) ?_
          refine xC.up (tv114 (h := x_setc h 0 0) (F := F1) (x1 := v17) (x2 := x1) (e := v17.toNatClampNeg) S.set (by omega) (by omega) M1 (fun o53 F54 hp => ?_)) (by omega)
          obtain ⟨hF57, ⟨v56, rfl, q55⟩⟩ := hp
          rw [hF57]
          show x_seq _ _ _ _ ([.inr (.inr (8, 1)), .inl x1, .inl x2, .inl x3, .inl yjn4_4, .inl v17, .inr (.inr (0, 0)), .inr (.inr (0, 0)), .inr (.inr (0, 0))], [.inl v56], mh h F1)
          have hP := q55
          refine q_istore (Nat.le_of_ble_eq_true rfl) ?_
          show x_seq _ _ _ _ ([.inr (.inr (8, 1)), .inl x1, .inl x2, .inl x3, .inl yjn4_4, .inl v17, .inl v56, .inr (.inr (0, 0)), .inr (.inr (0, 0))], [], mh h F1)
          refine q_iload rfl ?_
          refine v_if_lt (fun d58 => ?_) (fun d58 => ?_)
          · skip
            refine xR.blk c115_139 ?_
            refine v_iconst (k := 0) rfl (fun v59 e60 => ?_)
            refine q_goto ?_
            refine xR.blk c115_140 ?_
            refine q_istore (Nat.le_of_ble_eq_true rfl) ?_
            show x_seq _ _ _ _ ([.inr (.inr (8, 1)), .inl x1, .inl x2, .inl x3, .inl yjn4_4, .inl v17, .inl v56, .inl v59, .inr (.inr (0, 0))], [], mh h F1)
            refine v_iconst (k := 12) rfl (fun v61 e62 => ?_)
            refine q_iload rfl ?_
            refine v_imul' e62 (by omega) (fun v63 e64 => ?_)
            refine q_istore (Nat.le_of_ble_eq_true rfl) ?_
            show x_seq _ _ _ _ ([.inr (.inr (8, 1)), .inl x1, .inl x2, .inl x3, .inl yjn4_4, .inl v17, .inl v56, .inl v59, .inl v63], [], mh h F1)
            refine q_goto ?_
            have lp65 : ∀ (m66 : Nat) (ylp65_7 : Int32) (ylp65_8 : Int32), (12 * x1.toInt ≤ ylp65_8.toInt ∧ ylp65_8.toInt ≤ 12 * x1.toInt + 12) → (ylp65_7.toInt ≠ 0 → 0 ≤ v56.toInt ∨ (F1 48 v17.toNatClampNeg).toInt < 3) → (12 * x1.toInt + 12 - ylp65_8.toInt).toNat < m66 → xR (70000000000 + 20 * m66) 115 148 ([.inr (.inr (8, 1)), .inl x1, .inl x2, .inl x3, .inl yjn4_4, .inl v17, .inl v56, .inl ylp65_7, .inl ylp65_8], [], mh h F1) Z := by
              intro m66
              induction m66 with
              | zero => intro ylp65_7 ylp65_8 klp65_0 klp65_1 kmlp65; exact absurd kmlp65 (by omega)
              | succ m66 ih67 =>
                intro ylp65_7 ylp65_8 klp65_0 klp65_1 kmlp65
                rw [show 70000000000 + 20 * (m66 + 1) = 70000000000 + 20 * m66 + 20 by omega]
                refine xR.blk c115_148 ?_
                refine q_iload rfl ?_
                refine v_iconst (k := 12) rfl (fun v68 e69 => ?_)
                refine q_iload rfl ?_
                refine v_imul' e69 (by omega) (fun v70 e71 => ?_)
                refine q_aload rfl (by decide) ?_
                refine m_gfr S (n := 3) (by decide) ?_
                refine q_iload rfl ?_
                refine m_ald (k := 10) (n := 3) S (by decide) (by omega) (by omega) ?_
                have e72 : 0 ≤ (F1 29 x1.toNatClampNeg).toInt ∧ (F1 29 x1.toNatClampNeg).toInt ≤ 12 := M1.rg (lo := 0) (hi := 12) (by decide) _
                refine v_iadd (by omega) (fun v73 e74 => ?_)
                refine v_icmp_ge (fun d75 => ?_) (fun d75 => ?_)
                · skip
                  refine xR.blk c115_198 ?_
                  refine q_iload rfl ?_
                  refine v_if_ne (fun d76 => ?_) (fun d76 => ?_)
                  · skip
                    refine xR.blk c115_213 ?_
                    refine q_iload rfl ?_
                    refine v_if_lt (fun d77 => ?_) (fun d77 => ?_)
                    · skip
                      refine xR.blk c115_256 ?_
                      refine v_iconst (k := 1) rfl (fun v78 e79 => ?_)
                      exact q_zret (i32_01 (by omega)) (hZ _ _ ⟨(MX.close M1 (by unfold SL; exact ⟨fun z => by omega, fun z => by omega, fun z => by omega, fun z => by omega⟩)), ⟨_, rfl, by omega⟩⟩)
                    · skip
                      refine q_aload rfl (by decide) ?_
                      refine m_gfr S (n := 72) (by decide) ?_
                      refine q_iload rfl ?_
                      refine m_ald (k := 30) (n := 72) S (by decide) (by omega) (by omega) ?_
                      have e80 : 0 ≤ (F1 48 v17.toNatClampNeg).toInt ∧ (F1 48 v17.toNatClampNeg).toInt ≤ 5 := M1.rg (lo := 0) (hi := 5) (by decide) _
                      refine q_aload rfl (by decide) ?_
                      refine m_gfr S (n := 36) (by decide) ?_
                      refine q_iload rfl ?_
                      refine m_ald (k := 11) (n := 36) S (by decide) (by omega) (by omega) ?_
                      refine q_call (Nat.le_of_ble_eq_true rfl) (Nat.le_of_ble_eq_true rfl) (by show x_ce h + 0 ≤ 0; rw [S.2.2.1]; exact Nat.le_refl 0) (by show x_so h + 0 ≤ 0; rw [S.2.2.2]; exact Nat.le_refl 0) ?_
                      refine xC.up (tv95 (h := x_setc h 0 0) (F := F1) (x0 := (F1 30 v56.toNatClampNeg)) S.set  (fun o81 F82 hp => ?_)) (by omega)
                      obtain ⟨hF85, ⟨v84, rfl, q83⟩⟩ := hp
                      rw [hF85]
                      show x_seq _ _ _ _ ([.inr (.inr (8, 1)), .inl x1, .inl x2, .inl x3, .inl yjn4_4, .inl v17, .inl v56, .inl ylp65_7, .inl ylp65_8], [.inl v84, .inl (F1 48 v17.toNatClampNeg)], mh h F1)
                      refine v_iconst (k := 2) rfl (fun v86 e87 => ?_)
                      refine v_iadd (by omega) (fun v88 e89 => ?_)
                      refine v_icmp_lt (fun d90 => ?_) (fun d90 => ?_)
                      · skip
                        refine xR.blk c115_256 ?_
                        refine v_iconst (k := 1) rfl (fun v91 e92 => ?_)
                        exact q_zret (i32_01 (by omega)) (hZ _ _ ⟨(MX.close M1 (by unfold SL; exact ⟨fun z => by omega, fun z => by omega, fun z => by omega, fun z => by omega⟩)), ⟨_, rfl, by omega⟩⟩)
                      · skip
                        refine q_aload rfl (by decide) ?_
                        refine m_gfr S (n := 72) (by decide) ?_
                        refine q_iload rfl ?_
                        refine q_iload rfl ?_
                        refine m_ast (k := 40) (n := 72) S (by decide) (by omega) (by omega) ?_
                        show x_seq _ _ _ _ ([.inr (.inr (8, 1)), .inl x1, .inl x2, .inl x3, .inl yjn4_4, .inl v17, .inl v56, .inl ylp65_7, .inl ylp65_8], [], mh h (x_u2 F1 58 v17.toNatClampNeg v56))
                        refine q_aload rfl (by decide) ?_
                        refine q_iload rfl ?_
                        refine q_iload rfl ?_
                        refine q_callv (j := 1) rfl (by decide) ⟨Nat.le_refl 1, Nat.le_of_eq S.1.symm⟩ (Nat.le_of_ble_eq_true rfl) (Nat.le_of_ble_eq_true rfl) (by show x_ce h + 0 ≤ 0; rw [S.2.2.1]; exact Nat.le_refl 0) (by show x_so h + 0 ≤ 0; rw [S.2.2.2]; exact Nat.le_refl 0) ?_
                        refine xC.up (tv103 (h := x_setc h 0 0) (F := (x_u2 F1 58 v17.toNatClampNeg v56)) (x1 := v17) (x2 := x1) S.set (by omega) (by omega) (MX.put (K := 58) (i := v17.toNatClampNeg) (v := v56) M1 (fun lo hi hm => by simp only [mrl, List.mem_cons, Prod.mk.injEq, List.not_mem_nil, or_false] at hm; omega) (by decide) (fun z => absurd z (by decide)) (Or.inl rfl)) (by rw [show (x_u2 F1 58 v17.toNatClampNeg v56) 63 v17.toNatClampNeg = (F1 63 v17.toNatClampNeg) from (by rw [u2_ne (by decide)]), show (x_u2 F1 58 v17.toNatClampNeg v56) 55 v17.toNatClampNeg = (F1 55 v17.toNatClampNeg) from (by rw [u2_ne (by decide)])]; omega) (by rw [show (x_u2 F1 58 v17.toNatClampNeg v56) 24 v17.toNatClampNeg = (F1 24 v17.toNatClampNeg) from (by rw [u2_ne (by decide)])]; omega) (fun o93 F94 hp => ?_)) (by omega)
                        obtain ⟨q97, rfl⟩ := hp
                        show x_seq _ _ _ _ ([.inr (.inr (8, 1)), .inl x1, .inl x2, .inl x3, .inl yjn4_4, .inl v17, .inl v56, .inl ylp65_7, .inl ylp65_8], [], mh h F94)
                        refine q_goto ?_
                        refine xR.blk c115_256 ?_
                        refine v_iconst (k := 1) rfl (fun v98 e99 => ?_)
                        exact q_zret (i32_01 (by omega)) (hZ _ _ ⟨q97.1, ⟨_, rfl, by omega⟩⟩)
                  · skip
                    refine q_aload rfl (by decide) ?_
                    refine q_iload rfl ?_
                    refine v_iconst (k := 5) rfl (fun v100 e101 => ?_)
                    refine q_callv (j := 1) rfl (by decide) ⟨Nat.le_refl 1, Nat.le_of_eq S.1.symm⟩ (Nat.le_of_ble_eq_true rfl) (Nat.le_of_ble_eq_true rfl) (by show x_ce h + 0 ≤ 0; rw [S.2.2.1]; exact Nat.le_refl 0) (by show x_so h + 0 ≤ 0; rw [S.2.2.2]; exact Nat.le_refl 0) ?_
                    refine xC.up (tv105 (h := x_setc h 0 0) (F := F1) (x1 := v17) (x2 := v100) (e := v17.toNatClampNeg) S.set (by omega) M1 (Or.inl rfl) (fun o102 F103 hp => ?_)) (by omega)
                    obtain ⟨q106, rfl⟩ := hp
                    show x_seq _ _ _ _ ([.inr (.inr (8, 1)), .inl x1, .inl x2, .inl x3, .inl yjn4_4, .inl v17, .inl v56, .inl ylp65_7, .inl ylp65_8], [], mh h F103)
                    refine q_goto ?_
                    refine xR.blk c115_256 ?_
                    refine v_iconst (k := 1) rfl (fun v107 e108 => ?_)
                    exact q_zret (i32_01 (by omega)) (hZ _ _ ⟨q106.1, ⟨_, rfl, by omega⟩⟩)
                · skip
                  refine q_iload rfl ?_
                  refine v_if_ne (fun d109 => ?_) (fun d109 => ?_)
                  · skip
                    refine xR.blk c115_185 ?_
                    refine v_iconst (k := 1) rfl (fun v110 e111 => ?_)
                    refine q_goto ?_
                    refine xR.blk c115_190 ?_
                    refine q_istore (Nat.le_of_ble_eq_true rfl) ?_
                    show x_seq _ _ _ _ ([.inr (.inr (8, 1)), .inl x1, .inl x2, .inl x3, .inl yjn4_4, .inl v17, .inl v56, .inl v110, .inl ylp65_8], [], mh h F1)
                    refine v_iinc (k := 1) rfl rfl (by omega) (by omega) (fun v112 e113 => ?_)
                    show x_seq _ _ _ _ ([.inr (.inr (8, 1)), .inl x1, .inl x2, .inl x3, .inl yjn4_4, .inl v17, .inl v56, .inl v110, .inl v112], [], mh h F1)
                    refine q_goto ?_
                    exact (ih67 v110 v112 (by omega) (fun hz => by first | (exfalso; omega) | exact klp65_1 (by omega) | (rcases hQ.2 (by omega) with q9 | q9 <;> first | exact Or.inr q9 | (refine Classical.byContradiction fun zz => ?_; have c8 := x_clamp (n := ylp65_8) (by omega); have c9 := hP.2 (by omega) ylp65_8.toNatClampNeg (by omega) (by omega); rw [c9] at q9; cases q9))) (by omega)).up (by omega)
                  · skip
                    refine q_aload rfl (by decide) ?_
                    refine q_iload rfl ?_
                    refine q_aload rfl (by decide) ?_
                    refine m_gfr S (n := 36) (by decide) ?_
                    refine q_iload rfl ?_
                    refine m_ald (k := 11) (n := 36) S (by decide) (by omega) (by omega) ?_
                    refine q_callv (j := 1) rfl (by decide) ⟨Nat.le_refl 1, Nat.le_of_eq S.1.symm⟩ (Nat.le_of_ble_eq_true rfl) (Nat.le_of_ble_eq_true rfl) (by show x_ce h + 0 ≤ 0; rw [S.2.2.1]; exact Nat.le_refl 0) (by show x_so h + 0 ≤ 0; rw [S.2.2.2]; exact Nat.le_refl 0) ?_
                    refine xC.up (tv113 (h := x_setc h 0 0) (F := F1) (x1 := v17) (x2 := (F1 30 ylp65_8.toNatClampNeg)) S.set (by omega) (by omega) (fun o114 F115 hp => ?_)) (by omega)
                    obtain ⟨hF118, ⟨v117, rfl, q116⟩⟩ := hp
                    rw [hF118]
                    show x_seq _ _ _ _ ([.inr (.inr (8, 1)), .inl x1, .inl x2, .inl x3, .inl yjn4_4, .inl v17, .inl v56, .inl ylp65_7, .inl ylp65_8], [.inl v117], mh h F1)
                    have hQ := q116
                    refine v_if_eq (fun d119 => ?_) (fun d119 => ?_)
                    · skip
                      refine xR.blk c115_189 ?_
                      refine v_iconst (k := 0) rfl (fun v120 e121 => ?_)
                      refine q_goto ?_
                      refine xR.blk c115_190 ?_
                      refine q_istore (Nat.le_of_ble_eq_true rfl) ?_
                      show x_seq _ _ _ _ ([.inr (.inr (8, 1)), .inl x1, .inl x2, .inl x3, .inl yjn4_4, .inl v17, .inl v56, .inl v120, .inl ylp65_8], [], mh h F1)
                      refine v_iinc (k := 1) rfl rfl (by omega) (by omega) (fun v122 e123 => ?_)
                      show x_seq _ _ _ _ ([.inr (.inr (8, 1)), .inl x1, .inl x2, .inl x3, .inl yjn4_4, .inl v17, .inl v56, .inl v120, .inl v122], [], mh h F1)
                      refine q_goto ?_
                      exact (ih67 v120 v122 (by omega) (fun hz => by first | (exfalso; omega) | exact klp65_1 (by omega) | (rcases hQ.2 (by omega) with q9 | q9 <;> first | exact Or.inr q9 | (refine Classical.byContradiction fun zz => ?_; have c8 := x_clamp (n := ylp65_8) (by omega); have c9 := hP.2 (by omega) ylp65_8.toNatClampNeg (by omega) (by omega); rw [c9] at q9; cases q9))) (by omega)).up (by omega)
                    · skip
                      refine q_goto ?_
                      refine xR.blk c115_185 ?_
                      refine v_iconst (k := 1) rfl (fun v124 e125 => ?_)
                      refine q_goto ?_
                      refine xR.blk c115_190 ?_
                      refine q_istore (Nat.le_of_ble_eq_true rfl) ?_
                      show x_seq _ _ _ _ ([.inr (.inr (8, 1)), .inl x1, .inl x2, .inl x3, .inl yjn4_4, .inl v17, .inl v56, .inl v124, .inl ylp65_8], [], mh h F1)
                      refine v_iinc (k := 1) rfl rfl (by omega) (by omega) (fun v126 e127 => ?_)
                      show x_seq _ _ _ _ ([.inr (.inr (8, 1)), .inl x1, .inl x2, .inl x3, .inl yjn4_4, .inl v17, .inl v56, .inl v124, .inl v126], [], mh h F1)
                      refine q_goto ?_
                      exact (ih67 v124 v126 (by omega) (fun hz => by first | (exfalso; omega) | exact klp65_1 (by omega) | (rcases hQ.2 (by omega) with q9 | q9 <;> first | exact Or.inr q9 | (refine Classical.byContradiction fun zz => ?_; have c8 := x_clamp (n := ylp65_8) (by omega); have c9 := hP.2 (by omega) ylp65_8.toNatClampNeg (by omega) (by omega); rw [c9] at q9; cases q9))) (by omega)).up (by omega)
            exact (lp65 13 v59 v63 (by omega) (fun hz => by omega) (by omega)).up (by omega)
          · skip
            refine v_iconst (k := 1) rfl (fun v128 e129 => ?_)
            refine q_goto ?_
            refine xR.blk c115_140 ?_
            refine q_istore (Nat.le_of_ble_eq_true rfl) ?_
            show x_seq _ _ _ _ ([.inr (.inr (8, 1)), .inl x1, .inl x2, .inl x3, .inl yjn4_4, .inl v17, .inl v56, .inl v128, .inr (.inr (0, 0))], [], mh h F1)
            refine v_iconst (k := 12) rfl (fun v130 e131 => ?_)
            refine q_iload rfl ?_
            refine v_imul' e131 (by omega) (fun v132 e133 => ?_)
            refine q_istore (Nat.le_of_ble_eq_true rfl) ?_
            show x_seq _ _ _ _ ([.inr (.inr (8, 1)), .inl x1, .inl x2, .inl x3, .inl yjn4_4, .inl v17, .inl v56, .inl v128, .inl v132], [], mh h F1)
            refine q_goto ?_
            have lp134 : ∀ (m135 : Nat) (ylp134_7 : Int32) (ylp134_8 : Int32), (12 * x1.toInt ≤ ylp134_8.toInt ∧ ylp134_8.toInt ≤ 12 * x1.toInt + 12) → (ylp134_7.toInt ≠ 0 → 0 ≤ v56.toInt ∨ (F1 48 v17.toNatClampNeg).toInt < 3) → (12 * x1.toInt + 12 - ylp134_8.toInt).toNat < m135 → xR (70000000000 + 20 * m135) 115 148 ([.inr (.inr (8, 1)), .inl x1, .inl x2, .inl x3, .inl yjn4_4, .inl v17, .inl v56, .inl ylp134_7, .inl ylp134_8], [], mh h F1) Z := by
              intro m135
              induction m135 with
              | zero => intro ylp134_7 ylp134_8 klp134_0 klp134_1 kmlp134; exact absurd kmlp134 (by omega)
              | succ m135 ih136 =>
                intro ylp134_7 ylp134_8 klp134_0 klp134_1 kmlp134
                rw [show 70000000000 + 20 * (m135 + 1) = 70000000000 + 20 * m135 + 20 by omega]
                refine xR.blk c115_148 ?_
                refine q_iload rfl ?_
                refine v_iconst (k := 12) rfl (fun v137 e138 => ?_)
                refine q_iload rfl ?_
                refine v_imul' e138 (by omega) (fun v139 e140 => ?_)
                refine q_aload rfl (by decide) ?_
                refine m_gfr S (n := 3) (by decide) ?_
                refine q_iload rfl ?_
                refine m_ald (k := 10) (n := 3) S (by decide) (by omega) (by omega) ?_
                have e141 : 0 ≤ (F1 29 x1.toNatClampNeg).toInt ∧ (F1 29 x1.toNatClampNeg).toInt ≤ 12 := M1.rg (lo := 0) (hi := 12) (by decide) _
                refine v_iadd (by omega) (fun v142 e143 => ?_)
                refine v_icmp_ge (fun d144 => ?_) (fun d144 => ?_)
                · skip
                  refine xR.blk c115_198 ?_
                  refine q_iload rfl ?_
                  refine v_if_ne (fun d145 => ?_) (fun d145 => ?_)
                  · skip
                    refine xR.blk c115_213 ?_
                    refine q_iload rfl ?_
                    refine v_if_lt (fun d146 => ?_) (fun d146 => ?_)
                    · skip
                      refine xR.blk c115_256 ?_
                      refine v_iconst (k := 1) rfl (fun v147 e148 => ?_)
                      exact q_zret (i32_01 (by omega)) (hZ _ _ ⟨(MX.close M1 (by unfold SL; exact ⟨fun z => by omega, fun z => by omega, fun z => by omega, fun z => by omega⟩)), ⟨_, rfl, by omega⟩⟩)
                    · skip
                      refine q_aload rfl (by decide) ?_
                      refine m_gfr S (n := 72) (by decide) ?_
                      refine q_iload rfl ?_
                      refine m_ald (k := 30) (n := 72) S (by decide) (by omega) (by omega) ?_
                      have e149 : 0 ≤ (F1 48 v17.toNatClampNeg).toInt ∧ (F1 48 v17.toNatClampNeg).toInt ≤ 5 := M1.rg (lo := 0) (hi := 5) (by decide) _
                      refine q_aload rfl (by decide) ?_
                      refine m_gfr S (n := 36) (by decide) ?_
                      refine q_iload rfl ?_
                      refine m_ald (k := 11) (n := 36) S (by decide) (by omega) (by omega) ?_
                      refine q_call (Nat.le_of_ble_eq_true rfl) (Nat.le_of_ble_eq_true rfl) (by show x_ce h + 0 ≤ 0; rw [S.2.2.1]; exact Nat.le_refl 0) (by show x_so h + 0 ≤ 0; rw [S.2.2.2]; exact Nat.le_refl 0) ?_
                      refine xC.up (tv95 (h := x_setc h 0 0) (F := F1) (x0 := (F1 30 v56.toNatClampNeg)) S.set  (fun o150 F151 hp => ?_)) (by omega)
                      obtain ⟨hF154, ⟨v153, rfl, q152⟩⟩ := hp
                      rw [hF154]
                      show x_seq _ _ _ _ ([.inr (.inr (8, 1)), .inl x1, .inl x2, .inl x3, .inl yjn4_4, .inl v17, .inl v56, .inl ylp134_7, .inl ylp134_8], [.inl v153, .inl (F1 48 v17.toNatClampNeg)], mh h F1)
                      refine v_iconst (k := 2) rfl (fun v155 e156 => ?_)
                      refine v_iadd (by omega) (fun v157 e158 => ?_)
                      refine v_icmp_lt (fun d159 => ?_) (fun d159 => ?_)
                      · skip
                        refine xR.blk c115_256 ?_
                        refine v_iconst (k := 1) rfl (fun v160 e161 => ?_)
                        exact q_zret (i32_01 (by omega)) (hZ _ _ ⟨(MX.close M1 (by unfold SL; exact ⟨fun z => by omega, fun z => by omega, fun z => by omega, fun z => by omega⟩)), ⟨_, rfl, by omega⟩⟩)
                      · skip
                        refine q_aload rfl (by decide) ?_
                        refine m_gfr S (n := 72) (by decide) ?_
                        refine q_iload rfl ?_
                        refine q_iload rfl ?_
                        refine m_ast (k := 40) (n := 72) S (by decide) (by omega) (by omega) ?_
                        show x_seq _ _ _ _ ([.inr (.inr (8, 1)), .inl x1, .inl x2, .inl x3, .inl yjn4_4, .inl v17, .inl v56, .inl ylp134_7, .inl ylp134_8], [], mh h (x_u2 F1 58 v17.toNatClampNeg v56))
                        refine q_aload rfl (by decide) ?_
                        refine q_iload rfl ?_
                        refine q_iload rfl ?_
                        refine q_callv (j := 1) rfl (by decide) ⟨Nat.le_refl 1, Nat.le_of_eq S.1.symm⟩ (Nat.le_of_ble_eq_true rfl) (Nat.le_of_ble_eq_true rfl) (by show x_ce h + 0 ≤ 0; rw [S.2.2.1]; exact Nat.le_refl 0) (by show x_so h + 0 ≤ 0; rw [S.2.2.2]; exact Nat.le_refl 0) ?_
                        refine xC.up (tv103 (h := x_setc h 0 0) (F := (x_u2 F1 58 v17.toNatClampNeg v56)) (x1 := v17) (x2 := x1) S.set (by omega) (by omega) (MX.put (K := 58) (i := v17.toNatClampNeg) (v := v56) M1 (fun lo hi hm => by simp only [mrl, List.mem_cons, Prod.mk.injEq, List.not_mem_nil, or_false] at hm; omega) (by decide) (fun z => absurd z (by decide)) (Or.inl rfl)) (by rw [show (x_u2 F1 58 v17.toNatClampNeg v56) 63 v17.toNatClampNeg = (F1 63 v17.toNatClampNeg) from (by rw [u2_ne (by decide)]), show (x_u2 F1 58 v17.toNatClampNeg v56) 55 v17.toNatClampNeg = (F1 55 v17.toNatClampNeg) from (by rw [u2_ne (by decide)])]; omega) (by rw [show (x_u2 F1 58 v17.toNatClampNeg v56) 24 v17.toNatClampNeg = (F1 24 v17.toNatClampNeg) from (by rw [u2_ne (by decide)])]; omega) (fun o162 F163 hp => ?_)) (by omega)
                        obtain ⟨q166, rfl⟩ := hp
                        show x_seq _ _ _ _ ([.inr (.inr (8, 1)), .inl x1, .inl x2, .inl x3, .inl yjn4_4, .inl v17, .inl v56, .inl ylp134_7, .inl ylp134_8], [], mh h F163)
                        refine q_goto ?_
                        refine xR.blk c115_256 ?_
                        refine v_iconst (k := 1) rfl (fun v167 e168 => ?_)
                        exact q_zret (i32_01 (by omega)) (hZ _ _ ⟨q166.1, ⟨_, rfl, by omega⟩⟩)
                  · skip
                    refine q_aload rfl (by decide) ?_
                    refine q_iload rfl ?_
                    refine v_iconst (k := 5) rfl (fun v169 e170 => ?_)
                    refine q_callv (j := 1) rfl (by decide) ⟨Nat.le_refl 1, Nat.le_of_eq S.1.symm⟩ (Nat.le_of_ble_eq_true rfl) (Nat.le_of_ble_eq_true rfl) (by show x_ce h + 0 ≤ 0; rw [S.2.2.1]; exact Nat.le_refl 0) (by show x_so h + 0 ≤ 0; rw [S.2.2.2]; exact Nat.le_refl 0) ?_
                    refine xC.up (tv105 (h := x_setc h 0 0) (F := F1) (x1 := v17) (x2 := v169) (e := v17.toNatClampNeg) S.set (by omega) M1 (Or.inl rfl) (fun o171 F172 hp => ?_)) (by omega)
                    obtain ⟨q175, rfl⟩ := hp
                    show x_seq _ _ _ _ ([.inr (.inr (8, 1)), .inl x1, .inl x2, .inl x3, .inl yjn4_4, .inl v17, .inl v56, .inl ylp134_7, .inl ylp134_8], [], mh h F172)
                    refine q_goto ?_
                    refine xR.blk c115_256 ?_
                    refine v_iconst (k := 1) rfl (fun v176 e177 => ?_)
                    exact q_zret (i32_01 (by omega)) (hZ _ _ ⟨q175.1, ⟨_, rfl, by omega⟩⟩)
                · skip
                  refine q_iload rfl ?_
                  refine v_if_ne (fun d178 => ?_) (fun d178 => ?_)
                  · skip
                    refine xR.blk c115_185 ?_
                    refine v_iconst (k := 1) rfl (fun v179 e180 => ?_)
                    refine q_goto ?_
                    refine xR.blk c115_190 ?_
                    refine q_istore (Nat.le_of_ble_eq_true rfl) ?_
                    show x_seq _ _ _ _ ([.inr (.inr (8, 1)), .inl x1, .inl x2, .inl x3, .inl yjn4_4, .inl v17, .inl v56, .inl v179, .inl ylp134_8], [], mh h F1)
                    refine v_iinc (k := 1) rfl rfl (by omega) (by omega) (fun v181 e182 => ?_)
                    show x_seq _ _ _ _ ([.inr (.inr (8, 1)), .inl x1, .inl x2, .inl x3, .inl yjn4_4, .inl v17, .inl v56, .inl v179, .inl v181], [], mh h F1)
                    refine q_goto ?_
                    exact (ih136 v179 v181 (by omega) (fun hz => by first | (exfalso; omega) | exact klp134_1 (by omega) | (rcases hQ.2 (by omega) with q9 | q9 <;> first | exact Or.inr q9 | (refine Classical.byContradiction fun zz => ?_; have c8 := x_clamp (n := ylp134_8) (by omega); have c9 := hP.2 (by omega) ylp134_8.toNatClampNeg (by omega) (by omega); rw [c9] at q9; cases q9))) (by omega)).up (by omega)
                  · skip
                    refine q_aload rfl (by decide) ?_
                    refine q_iload rfl ?_
                    refine q_aload rfl (by decide) ?_
                    refine m_gfr S (n := 36) (by decide) ?_
                    refine q_iload rfl ?_
                    refine m_ald (k := 11) (n := 36) S (by decide) (by omega) (by omega) ?_
                    refine q_callv (j := 1) rfl (by decide) ⟨Nat.le_refl 1, Nat.le_of_eq S.1.symm⟩ (Nat.le_of_ble_eq_true rfl) (Nat.le_of_ble_eq_true rfl) (by show x_ce h + 0 ≤ 0; rw [S.2.2.1]; exact Nat.le_refl 0) (by show x_so h + 0 ≤ 0; rw [S.2.2.2]; exact Nat.le_refl 0) ?_
                    refine xC.up (tv113 (h := x_setc h 0 0) (F := F1) (x1 := v17) (x2 := (F1 30 ylp134_8.toNatClampNeg)) S.set (by omega) (by omega) (fun o183 F184 hp => ?_)) (by omega)
                    obtain ⟨hF187, ⟨v186, rfl, q185⟩⟩ := hp
                    rw [hF187]
                    show x_seq _ _ _ _ ([.inr (.inr (8, 1)), .inl x1, .inl x2, .inl x3, .inl yjn4_4, .inl v17, .inl v56, .inl ylp134_7, .inl ylp134_8], [.inl v186], mh h F1)
                    have hQ := q185
                    refine v_if_eq (fun d188 => ?_) (fun d188 => ?_)
                    · skip
                      refine xR.blk c115_189 ?_
                      refine v_iconst (k := 0) rfl (fun v189 e190 => ?_)
                      refine q_goto ?_
                      refine xR.blk c115_190 ?_
                      refine q_istore (Nat.le_of_ble_eq_true rfl) ?_
                      show x_seq _ _ _ _ ([.inr (.inr (8, 1)), .inl x1, .inl x2, .inl x3, .inl yjn4_4, .inl v17, .inl v56, .inl v189, .inl ylp134_8], [], mh h F1)
                      refine v_iinc (k := 1) rfl rfl (by omega) (by omega) (fun v191 e192 => ?_)
                      show x_seq _ _ _ _ ([.inr (.inr (8, 1)), .inl x1, .inl x2, .inl x3, .inl yjn4_4, .inl v17, .inl v56, .inl v189, .inl v191], [], mh h F1)
                      refine q_goto ?_
                      exact (ih136 v189 v191 (by omega) (fun hz => by first | (exfalso; omega) | exact klp134_1 (by omega) | (rcases hQ.2 (by omega) with q9 | q9 <;> first | exact Or.inr q9 | (refine Classical.byContradiction fun zz => ?_; have c8 := x_clamp (n := ylp134_8) (by omega); have c9 := hP.2 (by omega) ylp134_8.toNatClampNeg (by omega) (by omega); rw [c9] at q9; cases q9))) (by omega)).up (by omega)
                    · skip
                      refine q_goto ?_
                      refine xR.blk c115_185 ?_
                      refine v_iconst (k := 1) rfl (fun v193 e194 => ?_)
                      refine q_goto ?_
                      refine xR.blk c115_190 ?_
                      refine q_istore (Nat.le_of_ble_eq_true rfl) ?_
                      show x_seq _ _ _ _ ([.inr (.inr (8, 1)), .inl x1, .inl x2, .inl x3, .inl yjn4_4, .inl v17, .inl v56, .inl v193, .inl ylp134_8], [], mh h F1)
                      refine v_iinc (k := 1) rfl rfl (by omega) (by omega) (fun v195 e196 => ?_)
                      show x_seq _ _ _ _ ([.inr (.inr (8, 1)), .inl x1, .inl x2, .inl x3, .inl yjn4_4, .inl v17, .inl v56, .inl v193, .inl v195], [], mh h F1)
                      refine q_goto ?_
                      exact (ih136 v193 v195 (by omega) (fun hz => by first | (exfalso; omega) | exact klp134_1 (by omega) | (rcases hQ.2 (by omega) with q9 | q9 <;> first | exact Or.inr q9 | (refine Classical.byContradiction fun zz => ?_; have c8 := x_clamp (n := ylp134_8) (by omega); have c9 := hP.2 (by omega) ylp134_8.toNatClampNeg (by omega) (by omega); rw [c9] at q9; cases q9))) (by omega)).up (by omega)
            exact (lp134 13 v128 v132 (by omega) (fun hz => by omega) (by omega)).up (by omega)
        · skip
          refine v_iconst (k := 0) rfl (fun v197 e198 => ?_)
          exact q_zret (i32_01 (by omega)) (hZ _ _ ⟨(MX.putf (k := 0) (v := sjn4_0) M (fun lo hi hm => by simp only [mfl, List.mem_cons, Prod.mk.injEq, List.not_mem_nil, or_false] at hm; omega)), ⟨_, rfl, by omega⟩⟩)
      · skip
        refine v_iconst (k := 0) rfl (fun v199 e200 => ?_)
        exact q_zret (i32_01 (by omega)) (hZ _ _ ⟨(MX.putf (k := 0) (v := sjn4_0) M (fun lo hi hm => by simp only [mfl, List.mem_cons, Prod.mk.injEq, List.not_mem_nil, or_false] at hm; omega)), ⟨_, rfl, by omega⟩⟩)
    refine xR.blk c115_23 ?_
    refine q_istore (Nat.le_of_ble_eq_true rfl) ?_
    show x_seq _ _ _ _ ([.inr (.inr (8, 1)), .inl x1, .inl x2, .inl x3, .inl sjn1_0, .inr (.inr (0, 0)), .inr (.inr (0, 0)), .inr (.inr (0, 0)), .inr (.inr (0, 0))], [], mh h F)
    refine q_aload rfl (by decide) ?_
    refine q_iload rfl ?_
    refine v_if_ne (fun d201 => ?_) (fun d201 => ?_)
    · skip
      refine xR.blk c115_35 ?_
      refine q_aload rfl (by decide) ?_
      refine m_gfr S (n := 72) (by decide) ?_
      refine v_iconst (k := 24) rfl (fun v202 e203 => ?_)
      refine q_iload rfl ?_
      refine v_imul' e203 (by omega) (fun v204 e205 => ?_)
      refine q_iload rfl ?_
      refine v_iadd (by omega) (fun v206 e207 => ?_)
      refine m_ald (k := 3) (n := 72) S (by decide) (by omega) (by omega) ?_
      refine v_if_ne (fun d208 => ?_) (fun d208 => ?_)
      · skip
        refine xR.blk c115_53 ?_
        refine v_iconst (k := 0) rfl (fun v209 e210 => ?_)
        refine q_goto ?_
        exact (jn4 sjn1_0 v209 (by omega) (by omega)).up (by omega)
      · skip
        refine v_iconst (k := 2) rfl (fun v211 e212 => ?_)
        refine q_goto ?_
        exact (jn4 sjn1_0 v211 (by omega) (by omega)).up (by omega)
    · skip
      refine v_iconst (k := 1) rfl (fun v213 e214 => ?_)
      refine q_goto ?_
      exact (jn4 sjn1_0 v213 (by omega) (by omega)).up (by omega)
  refine xR.blk c115_0 ?_
  refine q_iload rfl ?_
  refine q_iload rfl ?_
  refine q_call (Nat.le_of_ble_eq_true rfl) (Nat.le_of_ble_eq_true rfl) (by show x_ce h + 0 ≤ 0; rw [S.2.2.1]; exact Nat.le_refl 0) (by show x_so h + 0 ≤ 0; rw [S.2.2.2]; exact Nat.le_refl 0) ?_
  refine xC.up (tv93 (h := x_setc h 0 0) (F := F) (x0 := x1) (x1 := x2) S.set  (fun o215 F216 hp => ?_)) (by omega)
  obtain ⟨hF219, ⟨v218, rfl, q217⟩⟩ := hp
  rw [hF219]
  show x_seq _ _ _ _ ([.inr (.inr (8, 1)), .inl x1, .inl x2, .inl x3, .inr (.inr (0, 0)), .inr (.inr (0, 0)), .inr (.inr (0, 0)), .inr (.inr (0, 0)), .inr (.inr (0, 0))], [.inl v218], mh h F)
  refine v_if_eq (fun d220 => ?_) (fun d220 => ?_)
  · skip
    refine xR.blk c115_22 ?_
    refine v_iconst (k := 0) rfl (fun v221 e222 => ?_)
    refine q_goto ?_
    exact (jn1 v221 (by omega) (by omega)).up (by omega)
  · skip
    refine q_iload rfl ?_
    refine v_iconst (k := 0) rfl (fun v223 e224 => ?_)
    refine v_iconst (k := 9) rfl (fun v225 e226 => ?_)
    refine q_call (Nat.le_of_ble_eq_true rfl) (Nat.le_of_ble_eq_true rfl) (by show x_ce h + 0 ≤ 0; rw [S.2.2.1]; exact Nat.le_refl 0) (by show x_so h + 0 ≤ 0; rw [S.2.2.2]; exact Nat.le_refl 0) ?_
    refine xC.up (tv92 (h := x_setc h 0 0) (F := F) (x0 := x3) (x1 := v223) (x2 := v225) S.set  (fun o227 F228 hp => ?_)) (by omega)
    obtain ⟨hF231, ⟨v230, rfl, q229⟩⟩ := hp
    rw [hF231]
    show x_seq _ _ _ _ ([.inr (.inr (8, 1)), .inl x1, .inl x2, .inl x3, .inr (.inr (0, 0)), .inr (.inr (0, 0)), .inr (.inr (0, 0)), .inr (.inr (0, 0)), .inr (.inr (0, 0))], [.inl v230], mh h F)
    refine v_if_eq (fun d232 => ?_) (fun d232 => ?_)
    · skip
      refine xR.blk c115_22 ?_
      refine v_iconst (k := 0) rfl (fun v233 e234 => ?_)
      refine q_goto ?_
      exact (jn1 v233 (by omega) (by omega)).up (by omega)
    · skip
      refine v_iconst (k := 1) rfl (fun v235 e236 => ?_)
      refine q_goto ?_
      exact (jn1 v235 (by omega) (by omega)).up (by omega)
