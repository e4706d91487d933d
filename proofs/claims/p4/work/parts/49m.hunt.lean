theorem tx98 {h : xH} {Z : xO → xH → Prop} {F : xF} {x1 : Int32} {x2 : Int32} {x3 : Int32} (S : MS h) (M : MX 72 F) (hZ : ∀ (o : xO) (F' : xF), (MX 72 F') ∧ (∃ b : Int32, o = .inl (some (.inl b)) ∧ ((hA x1 x2 x3 ∧ ¬ hb (wF F) x1 x2 x3 ∧ (F' 8 0).toInt = 0 ∧ b = F 26 (gi x1 x2) + 1 ∧ (∀ g, F' 26 g = if g = gi x1 x2 then F 26 (gi x1 x2) + 1 else F 26 g) ∧ ∀ k, F' 27 k = if k = 6 * gi x1 x2 + (F 26 (gi x1 x2)).toNatClampNeg then x3 else F 27 k) ∨ (¬ hA x1 x2 x3 ∧ (F' 8 0).toInt = 1 ∧ F' 26 = F 26 ∧ F' 27 = F 27) ∨ (hA x1 x2 x3 ∧ hb (wF F) x1 x2 x3 ∧ (F' 8 0).toInt = 2 ∧ F' 26 = F 26 ∧ F' 27 = F 27))) → Z o (mh h F')) : xC 3000 98 [.inr (.inr (8, 1)), .inl x1, .inl x2, .inl x3] (mh h F) Z := by
  refine ⟨rfl, S.2.2.1, S.2.2.2, ?_⟩
  show xR _ 98 0 ([.inr (.inr (8, 1)), .inl x1, .inl x2, .inl x3, .inr (.inr (0, 0)), .inr (.inr (0, 0)), .inr (.inr (0, 0))], [], mh h F) Z
  have jn1 : ∀ (sjn1_0 : Int32), (0 ≤ sjn1_0.toInt ∧ sjn1_0.toInt ≤ 1) → ((sjn1_0.toInt = 0 ∧ hA x1 x2 x3) ∨ (sjn1_0.toInt = 1 ∧ ¬ hA x1 x2 x3)) → xR (2900) 98 23 ([.inr (.inr (8, 1)), .inl x1, .inl x2, .inl x3, .inr (.inr (0, 0)), .inr (.inr (0, 0)), .inr (.inr (0, 0))], [.inl sjn1_0, .inr (.inr (8, 1))], mh h F) Z := by
    intro sjn1_0 kjn1_0 kjn1_1
    refine xR.blk c98_23 ?_
    refine q_callv (j := 1) rfl (by decide) ⟨Nat.le_refl 1, Nat.le_of_eq S.1.symm⟩ (Nat.le_of_ble_eq_true rfl) (Nat.le_of_ble_eq_true rfl) (by show x_ce h + 0 ≤ 0; rw [S.2.2.1]; exact Nat.le_refl 0) (by show x_so h + 0 ≤ 0; rw [S.2.2.2]; exact Nat.le_refl 0) ?_
    refine xC.up (tv91 (h := x_setc h 0 0) (F := F) (x1 := sjn1_0) S.set  (fun o4 F5 hp => ?_)) (by omega)
    obtain ⟨q8, ⟨v7, rfl, q6⟩⟩ := hp
    subst q8
    show x_seq _ _ _ _ ([.inr (.inr (8, 1)), .inl x1, .inl x2, .inl x3, .inr (.inr (0, 0)), .inr (.inr (0, 0)), .inr (.inr (0, 0))], [.inl v7], mh h (x_u2 F 8 0 sjn1_0))
    refine v_if_eq (fun d9 => ?_) (fun d9 => ?_)
    · have hA9 : hA x1 x2 x3 := by
        rcases kjn1_1 with ⟨-, q⟩ | ⟨q, -⟩
        · exact q
        · omega
      have hgi := gi_lt hA9
      clear kjn1_1
      obtain ⟨a1, a2, a3⟩ := id hA9
      have hc1 := x_clamp a1.1
      have hc2 := x_clamp a2.1
      have hgd : gi x1 x2 = 4 * x1.toNatClampNeg + x2.toNatClampNeg := rfl
      refine xR.blk c98_31 ?_
      refine v_iconst (k := 0) rfl (fun v10 e11 => ?_)
      refine q_istore (Nat.le_of_ble_eq_true rfl) ?_
      show x_seq _ _ _ _ ([.inr (.inr (8, 1)), .inl x1, .inl x2, .inl x3, .inl v10, .inr (.inr (0, 0)), .inr (.inr (0, 0))], [], mh h (x_u2 F 8 0 sjn1_0))
      refine v_iconst (k := 4) rfl (fun v12 e13 => ?_)
      refine q_iload rfl ?_
      refine v_imul' e13 (by omega) (fun v14 e15 => ?_)
      refine q_istore (Nat.le_of_ble_eq_true rfl) ?_
      show x_seq _ _ _ _ ([.inr (.inr (8, 1)), .inl x1, .inl x2, .inl x3, .inl v10, .inl v14, .inr (.inr (0, 0))], [], mh h (x_u2 F 8 0 sjn1_0))
      refine q_goto ?_
      have lp16 : ∀ (m17 : Nat) (ylp16_4 : Int32) (ylp16_5 : Int32) (zlp16_6 : xV), (4 * x1.toInt ≤ ylp16_5.toInt ∧ ylp16_5.toInt ≤ 4 * x1.toInt + 4) → ((ylp16_4.toInt = 1 ∧ sn F x1.toNatClampNeg x3 ylp16_5.toNatClampNeg 0) ∨ (ylp16_4.toInt = 0 ∧ ¬ sn F x1.toNatClampNeg x3 ylp16_5.toNatClampNeg 0)) → (4 * x1.toInt + 4 - ylp16_5.toInt).toNat < m17 → xR (120 + 200 * m17) 98 39 ([.inr (.inr (8, 1)), .inl x1, .inl x2, .inl x3, .inl ylp16_4, .inl ylp16_5, zlp16_6], [], mh h (x_u2 F 8 0 sjn1_0)) Z := by
        intro m17
        induction m17 with
        | zero => intro ylp16_4 ylp16_5 zlp16_6 klp16_0 ks kmlp16; exact absurd kmlp16 (by omega)
        | succ m17 ih18 =>
          intro ylp16_4 ylp16_5 zlp16_6 klp16_0 ks kmlp16
          have hc5 := x_clamp (n := ylp16_5) (by omega)
          rw [show 120 + 200 * (m17 + 1) = 120 + 200 * m17 + 200 by omega]
          refine xR.blk c98_39 ?_
          refine q_iload rfl ?_
          refine v_iconst (k := 4) rfl (fun v19 e20 => ?_)
          refine q_iload rfl ?_
          refine v_imul' e20 (by omega) (fun v21 e22 => ?_)
          refine v_iconst (k := 4) rfl (fun v23 e24 => ?_)
          refine v_iadd (by omega) (fun v25 e26 => ?_)
          refine v_icmp_ge (fun d27 => ?_) (fun d27 => ?_)
          · skip
            have jn28 : ∀ (yjn28_5 : Int32) (sjn28_0 : Int32), (0 ≤ sjn28_0.toInt ∧ sjn28_0.toInt ≤ 2) → (0 ≤ yjn28_5.toInt ∧ yjn28_5.toNatClampNeg = gi x1 x2) → ((sjn28_0.toInt = 0 ∧ ¬ hb (wF F) x1 x2 x3) ∨ (sjn28_0.toInt = 2 ∧ hb (wF F) x1 x2 x3)) → xR (120 + 200 * m17 + 100) 98 135 ([.inr (.inr (8, 1)), .inl x1, .inl x2, .inl x3, .inl ylp16_4, .inl yjn28_5, zlp16_6], [.inl sjn28_0, .inr (.inr (8, 1))], mh h (x_u2 F 8 0 sjn1_0)) Z := by
              intro yjn28_5 sjn28_0 kjn28_0 kjn28_1 kjn28_2
              have hc9 := x_clamp kjn28_1.1
              refine xR.blk c98_135 ?_
              refine q_callv (j := 1) rfl (by decide) ⟨Nat.le_refl 1, Nat.le_of_eq S.1.symm⟩ (Nat.le_of_ble_eq_true rfl) (Nat.le_of_ble_eq_true rfl) (by show x_ce h + 0 ≤ 0; rw [S.2.2.1]; exact Nat.le_refl 0) (by show x_so h + 0 ≤ 0; rw [S.2.2.2]; exact Nat.le_refl 0) ?_
              refine xC.up (tv91 (h := x_setc h 0 0) (F := (x_u2 F 8 0 sjn1_0)) (x1 := sjn28_0) S.set  (fun o31 F32 hp => ?_)) (by omega)
              obtain ⟨q35, ⟨v34, rfl, q33⟩⟩ := hp
              subst q35
              show x_seq _ _ _ _ ([.inr (.inr (8, 1)), .inl x1, .inl x2, .inl x3, .inl ylp16_4, .inl yjn28_5, zlp16_6], [.inl v34], mh h (x_u2 (x_u2 F 8 0 sjn1_0) 8 0 sjn28_0))
              refine v_if_eq (fun d36 => ?_) (fun d36 => ?_)
              · have nb : ¬ hb (wF F) x1 x2 x3 := by
                  rcases kjn28_2 with ⟨-, q⟩ | ⟨q, -⟩
                  · exact q
                  · omega
                have n6 : ¬ 6 ≤ (F 26 yjn28_5.toNatClampNeg).toInt := fun q => nb (Or.inl (by rw [kjn28_1.2] at q; exact q))
                have s0 : sjn28_0.toInt = 0 := by
                  rcases kjn28_2 with ⟨q, -⟩ | ⟨q, -⟩ <;> omega
                clear kjn28_2
                refine xR.blk c98_143 ?_
                refine q_aload rfl (by decide) ?_
                refine m_gfr S (n := 72) (by decide) ?_
                refine v_iconst (k := 6) rfl (fun v37 e38 => ?_)
                refine q_iload rfl ?_
                refine v_imul' e38 (by omega) (fun v39 e40 => ?_)
                refine q_aload rfl (by decide) ?_
                refine m_gfr S (n := 12) (by decide) ?_
                refine q_iload rfl ?_
                refine m_ald (k := 7) (n := 12) S (by decide) (by omega) (by omega) ?_
                have e41 : 0 ≤ (F 26 yjn28_5.toNatClampNeg).toInt ∧ (F 26 yjn28_5.toNatClampNeg).toInt ≤ 6 := M.rg (lo := 0) (hi := 6) (by decide) _
                show x_seq _ _ _ _ ([.inr (.inr (8, 1)), .inl x1, .inl x2, .inl x3, .inl ylp16_4, .inl yjn28_5, zlp16_6], [.inl (F 26 yjn28_5.toNatClampNeg), .inl v39, .inr (.inr (27, 1))], mh h (x_u2 (x_u2 F 8 0 sjn1_0) 8 0 sjn28_0))
                refine v_iadd (by omega) (fun v42 e43 => ?_)
                refine q_iload rfl ?_
                refine m_ast (k := 8) (n := 72) S (by decide) (by omega) (by omega) ?_
                show x_seq _ _ _ _ ([.inr (.inr (8, 1)), .inl x1, .inl x2, .inl x3, .inl ylp16_4, .inl yjn28_5, zlp16_6], [], mh h (x_u2 (x_u2 (x_u2 F 8 0 sjn1_0) 8 0 sjn28_0) 27 v42.toNatClampNeg x3))
                refine q_aload rfl (by decide) ?_
                refine m_gfr S (n := 12) (by decide) ?_
                refine q_iload rfl ?_
                refine q_dup2 rfl rfl ?_
                refine m_ald (k := 7) (n := 12) S (by decide) (by omega) (by omega) ?_
                have e44 : 0 ≤ (F 26 yjn28_5.toNatClampNeg).toInt ∧ (F 26 yjn28_5.toNatClampNeg).toInt ≤ 6 := M.rg (lo := 0) (hi := 6) (by decide) _
                show x_seq _ _ _ _ ([.inr (.inr (8, 1)), .inl x1, .inl x2, .inl x3, .inl ylp16_4, .inl yjn28_5, zlp16_6], [.inl (F 26 yjn28_5.toNatClampNeg), .inl yjn28_5, .inr (.inr (26, 1))], mh h (x_u2 (x_u2 (x_u2 F 8 0 sjn1_0) 8 0 sjn28_0) 27 v42.toNatClampNeg x3))
                refine v_iconst (k := 1) rfl (fun v45 e46 => ?_)
                refine v_iadd (by omega) (fun v47 e48 => ?_)
                refine m_ast (k := 7) (n := 12) S (by decide) (by omega) (by omega) ?_
                show x_seq _ _ _ _ ([.inr (.inr (8, 1)), .inl x1, .inl x2, .inl x3, .inl ylp16_4, .inl yjn28_5, zlp16_6], [], mh h (x_u2 (x_u2 (x_u2 (x_u2 F 8 0 sjn1_0) 8 0 sjn28_0) 27 v42.toNatClampNeg x3) 26 yjn28_5.toNatClampNeg v47))
                refine q_aload rfl (by decide) ?_
                refine m_gfr S (n := 12) (by decide) ?_
                refine q_iload rfl ?_
                refine m_ald (k := 7) (n := 12) S (by decide) (by omega) (by omega) ?_
                rw [show (x_u2 (x_u2 (x_u2 (x_u2 F 8 0 sjn1_0) 8 0 sjn28_0) 27 v42.toNatClampNeg x3) 26 yjn28_5.toNatClampNeg v47) 26 yjn28_5.toNatClampNeg = v47 from (by rw [u2_eq])]
                show x_seq _ _ _ _ ([.inr (.inr (8, 1)), .inl x1, .inl x2, .inl x3, .inl ylp16_4, .inl yjn28_5, zlp16_6], [.inl v47], mh h (x_u2 (x_u2 (x_u2 (x_u2 F 8 0 sjn1_0) 8 0 sjn28_0) 27 v42.toNatClampNeg x3) 26 yjn28_5.toNatClampNeg v47))
                have cv := x_clamp (n := v42) (by omega)
                have e47 : v47 = F 26 (gi x1 x2) + 1 := by rw [← kjn28_1.2]; exact i32_eq.mpr (by rw [i32_add (by rw [i32_1]; omega) (by rw [i32_1]; omega), i32_1]; omega)
                have e42 : v42.toNatClampNeg = 6 * gi x1 x2 + (F 26 (gi x1 x2)).toNatClampNeg := by rw [← kjn28_1.2]; have := x_clamp (n := F 26 yjn28_5.toNatClampNeg) (by omega); omega
                refine q_iret (hZ _ _ ⟨(MX.put (K := 26) (i := yjn28_5.toNatClampNeg) (v := v47) (MX.put (K := 27) (i := v42.toNatClampNeg) (v := x3) (MX.putf (k := 0) (v := sjn28_0) (MX.putf (k := 0) (v := sjn1_0) M (fun lo hi hm => by simp only [mfl, List.mem_cons, Prod.mk.injEq, List.not_mem_nil, or_false] at hm; omega)) (fun lo hi hm => by simp only [mfl, List.mem_cons, Prod.mk.injEq, List.not_mem_nil, or_false] at hm; omega)) (fun lo hi hm => by simp only [mrl, List.mem_cons, Prod.mk.injEq, List.not_mem_nil, or_false] at hm; omega) (by decide) (fun z => absurd z (by decide)) (Or.inl rfl)) (fun lo hi hm => by simp only [mrl, List.mem_cons, Prod.mk.injEq, List.not_mem_nil, or_false] at hm; omega) (by decide) (fun z => absurd z (by decide)) (Or.inl rfl)), ⟨_, rfl, Or.inl ⟨hA9, nb, s0, e47, fun g => ?_, fun k => ?_⟩⟩⟩)
                · show (if 26 = 26 ∧ g = yjn28_5.toNatClampNeg then v47 else F 26 g) = _
                  rw [e47, kjn28_1.2]
                  by_cases e9 : g = gi x1 x2
                  · rw [if_pos ⟨rfl, e9⟩, if_pos e9]
                  · rw [if_neg (fun y => e9 y.2), if_neg e9]
                · show (if 27 = 27 ∧ k = v42.toNatClampNeg then x3 else F 27 k) = _
                  rw [e42]
                  by_cases e9 : k = 6 * gi x1 x2 + (F 26 (gi x1 x2)).toNatClampNeg
                  · rw [if_pos ⟨rfl, e9⟩, if_pos e9]
                  · rw [if_neg (fun y => e9 y.2), if_neg e9]
              · skip
                refine v_iconst (k := 0) rfl (fun v49 e50 => ?_)
                have bb : hb (wF F) x1 x2 x3 ∧ sjn28_0.toInt = 2 := by
                  rcases kjn28_2 with ⟨q, -⟩ | ⟨q, q2⟩
                  · omega
                  · exact ⟨q2, q⟩
                exact q_iret (hZ _ _ ⟨(MX.putf (k := 0) (v := sjn28_0) (MX.putf (k := 0) (v := sjn1_0) M (fun lo hi hm => by simp only [mfl, List.mem_cons, Prod.mk.injEq, List.not_mem_nil, or_false] at hm; omega)) (fun lo hi hm => by simp only [mfl, List.mem_cons, Prod.mk.injEq, List.not_mem_nil, or_false] at hm; omega)), ⟨_, rfl, Or.inr (Or.inr ⟨hA9, bb.1, bb.2, rfl, rfl⟩)⟩⟩)
            refine xR.blk c98_105 ?_
            refine v_iconst (k := 4) rfl (fun v51 e52 => ?_)
            refine q_iload rfl ?_
            refine v_imul' e52 (by omega) (fun v53 e54 => ?_)
            refine q_iload rfl ?_
            refine v_iadd (by omega) (fun v55 e56 => ?_)
            have c55 := x_clamp (n := v55) (by omega)
            have g55 : 0 ≤ v55.toInt ∧ v55.toNatClampNeg = gi x1 x2 := ⟨by omega, by omega⟩
            rw [show ylp16_5.toNatClampNeg = 4 * x1.toNatClampNeg + 4 by omega, sn_all] at ks
            refine q_istore (Nat.le_of_ble_eq_true rfl) ?_
            show x_seq _ _ _ _ ([.inr (.inr (8, 1)), .inl x1, .inl x2, .inl x3, .inl ylp16_4, .inl v55, zlp16_6], [], mh h (x_u2 F 8 0 sjn1_0))
            refine q_aload rfl (by decide) ?_
            refine q_iload rfl ?_
            refine v_if_ne (fun d57 => ?_) (fun d57 => ?_)
            · skip
              refine xR.blk c98_130 ?_
              refine v_iconst (k := 2) rfl (fun v58 e59 => ?_)
              refine q_goto ?_
              refine (jn28 v55 v58 (by omega) g55 (Or.inr ⟨e59, Or.inr ?_⟩)).up (by omega)
              rcases ks with ⟨-, q⟩ | ⟨q, -⟩
              · exact q
              · omega
            · skip
              refine q_aload rfl (by decide) ?_
              refine m_gfr S (n := 12) (by decide) ?_
              refine q_iload rfl ?_
              refine m_ald (k := 7) (n := 12) S (by decide) (by omega) (by omega) ?_
              have e60 : 0 ≤ (F 26 v55.toNatClampNeg).toInt ∧ (F 26 v55.toNatClampNeg).toInt ≤ 6 := M.rg (lo := 0) (hi := 6) (by decide) _
              show x_seq _ _ _ _ ([.inr (.inr (8, 1)), .inl x1, .inl x2, .inl x3, .inl ylp16_4, .inl v55, zlp16_6], [.inl (F 26 v55.toNatClampNeg), .inr (.inr (8, 1))], mh h (x_u2 F 8 0 sjn1_0))
              refine v_iconst (k := 6) rfl (fun v61 e62 => ?_)
              refine v_icmp_ne (fun d63 => ?_) (fun d63 => ?_)
              · skip
                refine xR.blk c98_134 ?_
                refine v_iconst (k := 0) rfl (fun v64 e65 => ?_)
                refine q_goto ?_
                refine (jn28 v55 v64 (by omega) g55 (Or.inl ⟨e65, fun z => ?_⟩)).up (by omega)
                rcases z with z | z
                · have z : 6 ≤ (F 26 (gi x1 x2)).toInt := z
                  rw [g55.2] at d63 e60
                  omega
                · rcases ks with ⟨q, -⟩ | ⟨-, q⟩
                  · omega
                  · exact q z
              · skip
                refine q_goto ?_
                refine xR.blk c98_130 ?_
                refine v_iconst (k := 2) rfl (fun v66 e67 => ?_)
                refine q_goto ?_
                refine (jn28 v55 v66 (by omega) g55 (Or.inr ⟨e67, Or.inl ?_⟩)).up (by omega)
                show 6 ≤ (F 26 (gi x1 x2)).toInt
                rw [g55.2] at d63
                omega
          · skip
            refine v_iconst (k := 0) rfl (fun v68 e69 => ?_)
            refine q_istore (Nat.le_of_ble_eq_true rfl) ?_
            show x_seq _ _ _ _ ([.inr (.inr (8, 1)), .inl x1, .inl x2, .inl x3, .inl ylp16_4, .inl ylp16_5, .inl v68], [], mh h (x_u2 F 8 0 sjn1_0))
            refine q_goto ?_
            have e73 : 0 ≤ (F 26 ylp16_5.toNatClampNeg).toInt ∧ (F 26 ylp16_5.toNatClampNeg).toInt ≤ 6 := M.rg (lo := 0) (hi := 6) (by decide) _
            have lp70 : ∀ (m71 : Nat) (ylp70_4 : Int32) (ylp70_6 : Int32), (0 ≤ ylp70_6.toInt ∧ ylp70_6.toInt ≤ (F 26 ylp16_5.toNatClampNeg).toInt) → ((ylp70_4.toInt = 1 ∧ sn F x1.toNatClampNeg x3 ylp16_5.toNatClampNeg ylp70_6.toNatClampNeg) ∨ (ylp70_4.toInt = 0 ∧ ¬ sn F x1.toNatClampNeg x3 ylp16_5.toNatClampNeg ylp70_6.toNatClampNeg)) → (6 - ylp70_6.toInt).toNat < m71 → xR (120 + 200 * m17 + 10 + 10 * m71) 98 52 ([.inr (.inr (8, 1)), .inl x1, .inl x2, .inl x3, .inl ylp70_4, .inl ylp16_5, .inl ylp70_6], [], mh h (x_u2 F 8 0 sjn1_0)) Z := by
              intro m71
              induction m71 with
              | zero => intro ylp70_4 ylp70_6 klp70_0 ks6 kmlp70; exact absurd kmlp70 (by omega)
              | succ m71 ih72 =>
                intro ylp70_4 ylp70_6 klp70_0 ks6 kmlp70
                have hc6 := x_clamp klp70_0.1
                rw [show 120 + 200 * m17 + 10 + 10 * (m71 + 1) = 120 + 200 * m17 + 10 + 10 * m71 + 10 by omega]
                refine xR.blk c98_52 ?_
                refine q_iload rfl ?_
                refine q_aload rfl (by decide) ?_
                refine m_gfr S (n := 12) (by decide) ?_
                refine q_iload rfl ?_
                refine m_ald (k := 7) (n := 12) S (by decide) (by omega) (by omega) ?_
                have e73 : 0 ≤ (F 26 ylp16_5.toNatClampNeg).toInt ∧ (F 26 ylp16_5.toNatClampNeg).toInt ≤ 6 := M.rg (lo := 0) (hi := 6) (by decide) _
                show x_seq _ _ _ _ ([.inr (.inr (8, 1)), .inl x1, .inl x2, .inl x3, .inl ylp70_4, .inl ylp16_5, .inl ylp70_6], [.inl (F 26 ylp16_5.toNatClampNeg), .inl ylp70_6], mh h (x_u2 F 8 0 sjn1_0))
                refine v_icmp_ge (fun d74 => ?_) (fun d74 => ?_)
                · skip
                  refine xR.blk c98_99 ?_
                  refine v_iinc (k := 1) rfl rfl (by omega) (by omega) (fun v75 e76 => ?_)
                  show x_seq _ _ _ _ ([.inr (.inr (8, 1)), .inl x1, .inl x2, .inl x3, .inl ylp70_4, .inl v75, .inl ylp70_6], [], mh h (x_u2 F 8 0 sjn1_0))
                  refine q_goto ?_
                  have c75 := x_clamp (n := v75) (by omega)
                  rw [sn_end (k := ylp70_6.toNatClampNeg) (by omega) (by omega) (by omega), show ylp16_5.toNatClampNeg + 1 = v75.toNatClampNeg by omega] at ks6
                  exact (ih18 ylp70_4 v75 (.inl ylp70_6) (by omega) ks6 (by omega)).up (by omega)
                · skip
                  refine q_iload rfl ?_
                  refine v_if_ne (fun d77 => ?_) (fun d77 => ?_)
                  · skip
                    refine xR.blk c98_86 ?_
                    refine v_iconst (k := 1) rfl (fun v78 e79 => ?_)
                    refine q_goto ?_
                    refine xR.blk c98_91 ?_
                    refine q_istore (Nat.le_of_ble_eq_true rfl) ?_
                    show x_seq _ _ _ _ ([.inr (.inr (8, 1)), .inl x1, .inl x2, .inl x3, .inl v78, .inl ylp16_5, .inl ylp70_6], [], mh h (x_u2 F 8 0 sjn1_0))
                    refine v_iinc (k := 1) rfl rfl (by omega) (by omega) (fun v80 e81 => ?_)
                    show x_seq _ _ _ _ ([.inr (.inr (8, 1)), .inl x1, .inl x2, .inl x3, .inl v78, .inl ylp16_5, .inl v80], [], mh h (x_u2 F 8 0 sjn1_0))
                    refine q_goto ?_
                    have c80 := x_clamp (n := v80) (by omega)
                    refine (ih72 v78 v80 (by omega) (Or.inl ⟨e79, ?_⟩) (by omega)).up (by omega)
                    rw [show v80.toNatClampNeg = ylp70_6.toNatClampNeg + 1 by omega, sn_up]
                    rcases ks6 with ⟨-, q⟩ | ⟨q, -⟩
                    · exact Or.inl q
                    · omega
                  · skip
                    refine q_aload rfl (by decide) ?_
                    refine m_gfr S (n := 72) (by decide) ?_
                    refine v_iconst (k := 6) rfl (fun v82 e83 => ?_)
                    refine q_iload rfl ?_
                    refine v_imul' e83 (by omega) (fun v84 e85 => ?_)
                    refine q_iload rfl ?_
                    refine v_iadd (by omega) (fun v86 e87 => ?_)
                    refine m_ald (k := 8) (n := 72) S (by decide) (by omega) (by omega) ?_
                    have e88 : 0 ≤ (F 27 v86.toNatClampNeg).toInt ∧ (F 27 v86.toNatClampNeg).toInt ≤ 23 := M.rg (lo := 0) (hi := 23) (by decide) _
                    show x_seq _ _ _ _ ([.inr (.inr (8, 1)), .inl x1, .inl x2, .inl x3, .inl ylp70_4, .inl ylp16_5, .inl ylp70_6], [.inl (F 27 v86.toNatClampNeg)], mh h (x_u2 F 8 0 sjn1_0))
                    refine q_iload rfl ?_
                    refine v_icmp_ne (fun d89 => ?_) (fun d89 => ?_)
                    · skip
                      refine xR.blk c98_90 ?_
                      refine v_iconst (k := 0) rfl (fun v90 e91 => ?_)
                      refine q_goto ?_
                      refine xR.blk c98_91 ?_
                      refine q_istore (Nat.le_of_ble_eq_true rfl) ?_
                      show x_seq _ _ _ _ ([.inr (.inr (8, 1)), .inl x1, .inl x2, .inl x3, .inl v90, .inl ylp16_5, .inl ylp70_6], [], mh h (x_u2 F 8 0 sjn1_0))
                      refine v_iinc (k := 1) rfl rfl (by omega) (by omega) (fun v92 e93 => ?_)
                      show x_seq _ _ _ _ ([.inr (.inr (8, 1)), .inl x1, .inl x2, .inl x3, .inl v90, .inl ylp16_5, .inl v92], [], mh h (x_u2 F 8 0 sjn1_0))
                      refine q_goto ?_
                      have c92 := x_clamp (n := v92) (by omega)
                      have c86 := x_clamp (n := v86) (by omega)
                      refine (ih72 v90 v92 (by omega) (Or.inr ⟨e91, ?_⟩) (by omega)).up (by omega)
                      rw [show v92.toNatClampNeg = ylp70_6.toNatClampNeg + 1 by omega, sn_up]
                      rintro (q | q)
                      · rcases ks6 with ⟨z, -⟩ | ⟨-, z⟩
                        · omega
                        · exact z q
                      · rw [← show v86.toNatClampNeg = 6 * ylp16_5.toNatClampNeg + ylp70_6.toNatClampNeg by omega] at q
                        exact d89 (by rw [q])
                    · skip
                      refine q_goto ?_
                      refine xR.blk c98_86 ?_
                      refine v_iconst (k := 1) rfl (fun v94 e95 => ?_)
                      refine q_goto ?_
                      refine xR.blk c98_91 ?_
                      refine q_istore (Nat.le_of_ble_eq_true rfl) ?_
                      show x_seq _ _ _ _ ([.inr (.inr (8, 1)), .inl x1, .inl x2, .inl x3, .inl v94, .inl ylp16_5, .inl ylp70_6], [], mh h (x_u2 F 8 0 sjn1_0))
                      refine v_iinc (k := 1) rfl rfl (by omega) (by omega) (fun v96 e97 => ?_)
                      show x_seq _ _ _ _ ([.inr (.inr (8, 1)), .inl x1, .inl x2, .inl x3, .inl v94, .inl ylp16_5, .inl v96], [], mh h (x_u2 F 8 0 sjn1_0))
                      refine q_goto ?_
                      have c96 := x_clamp (n := v96) (by omega)
                      have c86 := x_clamp (n := v86) (by omega)
                      refine (ih72 v94 v96 (by omega) (Or.inl ⟨e95, ?_⟩) (by omega)).up (by omega)
                      rw [show v96.toNatClampNeg = ylp70_6.toNatClampNeg + 1 by omega, sn_up]
                      refine Or.inr ?_
                      rw [← show v86.toNatClampNeg = 6 * ylp16_5.toNatClampNeg + ylp70_6.toNatClampNeg by omega]
                      exact i32_eq.mpr (by omega)
            have c68 := x_clamp (n := v68) (by omega)
            exact (lp70 7 ylp16_4 v68 (by omega) (by rw [show v68.toNatClampNeg = 0 by omega]; exact ks) (by omega)).up (by omega)
      have c14 := x_clamp (n := v14) (by omega)
      exact (lp16 5 v10 v14 (.inr (.inr (0, 0))) (by omega) (Or.inr ⟨e11, by rw [show v14.toNatClampNeg = 4 * x1.toNatClampNeg by omega]; exact sn_no⟩) (by omega)).up (by omega)
    · skip
      refine v_iconst (k := 0) rfl (fun v98 e99 => ?_)
      have bb : ¬ hA x1 x2 x3 ∧ sjn1_0.toInt = 1 := by
        rcases kjn1_1 with ⟨q, -⟩ | ⟨q, q2⟩
        · omega
        · exact ⟨q2, q⟩
      exact q_iret (hZ _ _ ⟨(MX.putf (k := 0) (v := sjn1_0) M (fun lo hi hm => by simp only [mfl, List.mem_cons, Prod.mk.injEq, List.not_mem_nil, or_false] at hm; omega)), ⟨_, rfl, Or.inr (Or.inl ⟨bb.1, bb.2, rfl, rfl⟩)⟩⟩)
  refine xR.blk c98_0 ?_
  refine q_aload rfl (by decide) ?_
  refine q_iload rfl ?_
  refine q_iload rfl ?_
  refine q_call (Nat.le_of_ble_eq_true rfl) (Nat.le_of_ble_eq_true rfl) (by show x_ce h + 0 ≤ 0; rw [S.2.2.1]; exact Nat.le_refl 0) (by show x_so h + 0 ≤ 0; rw [S.2.2.2]; exact Nat.le_refl 0) ?_
  refine xC.up (tv93 (h := x_setc h 0 0) (F := F) (x0 := x1) (x1 := x3) S.set  (fun o100 F101 hp => ?_)) (by omega)
  obtain ⟨hF104, ⟨v103, rfl, q102⟩⟩ := hp
  rw [hF104]
  show x_seq _ _ _ _ ([.inr (.inr (8, 1)), .inl x1, .inl x2, .inl x3, .inr (.inr (0, 0)), .inr (.inr (0, 0)), .inr (.inr (0, 0))], [.inl v103, .inr (.inr (8, 1))], mh h F)
  refine v_if_eq (fun d105 => ?_) (fun d105 => ?_)
  · skip
    refine xR.blk c98_22 ?_
    refine v_iconst (k := 1) rfl (fun v106 e107 => ?_)
    refine q_goto ?_
    exact (jn1 v106 (by omega) (by unfold hA; omega)).up (by omega)
  · skip
    refine q_iload rfl ?_
    refine v_iconst (k := 0) rfl (fun v108 e109 => ?_)
    refine v_iconst (k := 3) rfl (fun v110 e111 => ?_)
    refine q_call (Nat.le_of_ble_eq_true rfl) (Nat.le_of_ble_eq_true rfl) (by show x_ce h + 0 ≤ 0; rw [S.2.2.1]; exact Nat.le_refl 0) (by show x_so h + 0 ≤ 0; rw [S.2.2.2]; exact Nat.le_refl 0) ?_
    refine xC.up (tv92 (h := x_setc h 0 0) (F := F) (x0 := x2) (x1 := v108) (x2 := v110) S.set  (fun o112 F113 hp => ?_)) (by omega)
    obtain ⟨hF116, ⟨v115, rfl, q114⟩⟩ := hp
    rw [hF116]
    show x_seq _ _ _ _ ([.inr (.inr (8, 1)), .inl x1, .inl x2, .inl x3, .inr (.inr (0, 0)), .inr (.inr (0, 0)), .inr (.inr (0, 0))], [.inl v115, .inr (.inr (8, 1))], mh h F)
    refine v_if_eq (fun d117 => ?_) (fun d117 => ?_)
    · skip
      refine xR.blk c98_22 ?_
      refine v_iconst (k := 1) rfl (fun v118 e119 => ?_)
      refine q_goto ?_
      exact (jn1 v118 (by omega) (by unfold hA; omega)).up (by omega)
    · skip
      refine v_iconst (k := 0) rfl (fun v120 e121 => ?_)
      refine q_goto ?_
      exact (jn1 v120 (by omega) (by unfold hA; omega)).up (by omega)
