theorem mpop_le {v : Int} (h : 0 ≤ v ∧ v ≤ 7) : mpop v ≤ 3 := by
  unfold mpop
  omega
/-- registers of office o that are free -/
def nfr (H : xF) (o : Nat) : Nat := (if (H 38 (3 * o)).toInt < 0 then 1 else 0) + (if (H 38 (3 * o + 1)).toInt < 0 then 1 else 0) + (if (H 38 (3 * o + 2)).toInt < 0 then 1 else 0)
theorem nfr_le (H : xF) (o : Nat) : nfr H o ≤ 3 := by
  unfold nfr
  split <;> split <;> split <;> omega
theorem nfr_lt {H H' : xF} {o : Nat} (h : ∃ i : Nat, 3 * o ≤ i ∧ i ≤ 3 * o + 2 ∧ (H 38 i).toInt < 0 ∧ 0 ≤ (H' 38 i).toInt ∧ ∀ i', i' ≠ i → H' 38 i' = H 38 i') : nfr H' o < nfr H o := by
  obtain ⟨i, h1, h2, h3, h4, h5⟩ := h
  unfold nfr
  rcases (show i = 3 * o ∨ i = 3 * o + 1 ∨ i = 3 * o + 2 by omega) with rfl | rfl | rfl
  · rw [h5 (3 * o + 1) (by omega), h5 (3 * o + 2) (by omega), if_pos h3, if_neg (show ¬ (H' 38 (3 * o)).toInt < 0 by omega)]
    omega
  · rw [h5 (3 * o) (by omega), h5 (3 * o + 2) (by omega), if_pos h3, if_neg (show ¬ (H' 38 (3 * o + 1)).toInt < 0 by omega)]
    omega
  · rw [h5 (3 * o) (by omega), h5 (3 * o + 1) (by omega), if_pos h3, if_neg (show ¬ (H' 38 (3 * o + 2)).toInt < 0 by omega)]
    omega
theorem tv121 {h : xH} {Z : xO → xH → Prop} {F : xF} {x1 : Int32} {x2 : Int32} {x3 : Int32} (S : MS h) (g1 : 0 ≤ x1.toInt ∧ x1.toInt ≤ 71) (g2 : 0 ≤ x2.toInt ∧ x2.toInt ≤ 2) (g3 : 0 ≤ x3.toInt ∧ x3.toInt ≤ 99) (M : MX x1.toNatClampNeg F) (gT : (F 63 x1.toNatClampNeg).toInt ≤ 12) (gW : (F 24 x1.toNatClampNeg).toInt < 0) (hZ : ∀ (o : xO) (F' : xF), (MX 72 F' ∧ FR F F') ∧ (o = .inl none) → Z o (mh h F')) : xC 13000 121 [.inr (.inr (8, 1)), .inl x1, .inl x2, .inl x3] (mh h F) Z := by
  refine ⟨rfl, S.2.2.1, S.2.2.2, ?_⟩
  have c1 := x_clamp g1.1
  have r63 := M.rg (K := 63) (lo := 0) (hi := 16) (by decide) x1.toNatClampNeg
  show xR _ 121 0 ([.inr (.inr (8, 1)), .inl x1, .inl x2, .inl x3, .inr (.inr (0, 0)), .inr (.inr (0, 0)), .inr (.inr (0, 0))], [], mh h F) Z
  refine xR.blk c121_0 ?_
  refine q_iload rfl ?_
  refine v_iconst (k := 23) rfl (fun v1 e2 => ?_)
  refine v_icmp_le (fun d3 => ?_) (fun d3 => ?_)
  · skip
    refine xR.blk c121_13 ?_
    refine q_aload rfl (by decide) ?_
    refine q_iload rfl ?_
    refine q_iload rfl ?_
    refine q_callv (j := 1) rfl (by decide) ⟨Nat.le_refl 1, Nat.le_of_eq S.1.symm⟩ (Nat.le_of_ble_eq_true rfl) (Nat.le_of_ble_eq_true rfl) (by show x_ce h + 0 ≤ 0; rw [S.2.2.1]; exact Nat.le_refl 0) (by show x_so h + 0 ≤ 0; rw [S.2.2.2]; exact Nat.le_refl 0) ?_
    refine xC.up (tv117 (h := x_setc h 0 0) (F := F) (x1 := x2) (x2 := x3) (e := x1.toNatClampNeg) S.set (by omega) (by omega) M (fun o4 F5 hp => ?_)) (by omega)
    obtain ⟨hF8, ⟨v7, rfl, q6⟩⟩ := hp
    rw [hF8]
    show x_seq _ _ _ _ ([.inr (.inr (8, 1)), .inl x1, .inl x2, .inl x3, .inr (.inr (0, 0)), .inr (.inr (0, 0)), .inr (.inr (0, 0))], [.inl v7], mh h F)
    refine q_istore (Nat.le_of_ble_eq_true rfl) ?_
    show x_seq _ _ _ _ ([.inr (.inr (8, 1)), .inl x1, .inl x2, .inl x3, .inl v7, .inr (.inr (0, 0)), .inr (.inr (0, 0))], [], mh h F)
    refine q_aload rfl (by decide) ?_
    refine v_iconst (k := 24) rfl (fun v9 e10 => ?_)
    refine q_iload rfl ?_
    refine v_imul' e10 (by omega) (fun v11 e12 => ?_)
    refine q_iload rfl ?_
    refine v_iadd (by omega) (fun v13 e14 => ?_)
    refine q_callv (j := 1) rfl (by decide) ⟨Nat.le_refl 1, Nat.le_of_eq S.1.symm⟩ (Nat.le_of_ble_eq_true rfl) (Nat.le_of_ble_eq_true rfl) (by show x_ce h + 0 ≤ 0; rw [S.2.2.1]; exact Nat.le_refl 0) (by show x_so h + 0 ≤ 0; rw [S.2.2.2]; exact Nat.le_refl 0) ?_
    refine xC.up (tv116 (h := x_setc h 0 0) (F := F) (x1 := v13) S.set (by omega) (fun o15 F16 hp => ?_)) (by omega)
    obtain ⟨hF19, ⟨v18, rfl, q17⟩⟩ := hp
    rw [hF19]
    show x_seq _ _ _ _ ([.inr (.inr (8, 1)), .inl x1, .inl x2, .inl x3, .inl v7, .inr (.inr (0, 0)), .inr (.inr (0, 0))], [.inl v18], mh h F)
    refine v_if_ne (fun d20 => ?_) (fun d20 => ?_)
    · skip
      have jn21 : ∀ (sjn21_0 : Int32), (0 ≤ sjn21_0.toInt ∧ sjn21_0.toInt ≤ 1) → xR (12500) 121 55 ([.inr (.inr (8, 1)), .inl x1, .inl x2, .inl x3, .inl v7, .inr (.inr (0, 0)), .inr (.inr (0, 0))], [.inl sjn21_0], mh h F) Z := by
        intro sjn21_0 kjn21_0
        have jn24 : ∀ (yjn24_5 : Int32) (sjn24_0 : Int32), (-1 ≤ sjn24_0.toInt ∧ sjn24_0.toInt ≤ 4) → xR (12400) 121 71 ([.inr (.inr (8, 1)), .inl x1, .inl x2, .inl x3, .inl v7, .inl yjn24_5, .inr (.inr (0, 0))], [.inl sjn24_0], mh h F) Z := by
          intro yjn24_5 sjn24_0 kjn24_0
          have jn27 : ∀ (yjn27_6 : Int32) (sjn27_0 : Int32), (-1 ≤ sjn27_0.toInt ∧ sjn27_0.toInt ≤ 23) → (0 ≤ yjn27_6.toInt ∧ yjn27_6.toInt ≤ 4) → xR (12300) 121 93 ([.inr (.inr (8, 1)), .inl x1, .inl x2, .inl x3, .inl v7, .inl yjn24_5, .inl yjn27_6], [.inl sjn27_0, .inl x2, .inr (.inr (8, 1))], mh h F) Z := by
            intro yjn27_6 sjn27_0 kjn27_0 kjn27_1
            refine xR.blk c121_93 ?_
            refine q_iload rfl ?_
            refine q_callv (j := 1) rfl (by decide) ⟨Nat.le_refl 1, Nat.le_of_eq S.1.symm⟩ (Nat.le_of_ble_eq_true rfl) (Nat.le_of_ble_eq_true rfl) (by show x_ce h + 0 ≤ 0; rw [S.2.2.1]; exact Nat.le_refl 0) (by show x_so h + 0 ≤ 0; rw [S.2.2.2]; exact Nat.le_refl 0) ?_
            refine xC.up (tv119 (h := x_setc h 0 0) (F := F) (x1 := x2) (x2 := sjn27_0) (x3 := v7) (e := x1.toNatClampNeg) S.set (by omega) (by omega) (by omega) M (fun o30 F31 hp => ?_)) (by omega)
            obtain ⟨q34, ⟨v33, rfl, q32⟩⟩ := hp
            have kk35 : F31 63 x1.toNatClampNeg = (F 63 x1.toNatClampNeg) := (q34.2.1 63 x1.toNatClampNeg (by decide)).trans rfl
            have ki36 : (F31 63 x1.toNatClampNeg).toInt = (F 63 x1.toNatClampNeg).toInt := by rw [kk35]
            have kk37 : F31 24 x1.toNatClampNeg = (F 24 x1.toNatClampNeg) := (q34.2.1 24 x1.toNatClampNeg (by decide)).trans rfl
            have ki38 : (F31 24 x1.toNatClampNeg).toInt = (F 24 x1.toNatClampNeg).toInt := by rw [kk37]
            show x_seq _ _ _ _ ([.inr (.inr (8, 1)), .inl x1, .inl x2, .inl x3, .inl v7, .inl yjn24_5, .inl yjn27_6], [.inl v33], mh h F31)
            refine v_if_ne (fun d39 => ?_) (fun d39 => ?_)
            · skip
              have jn40 : ∀ (F43 : xF), (MX x1.toNatClampNeg F43) → (FR F F43) → (0 ≤ (F43 63 x1.toNatClampNeg).toInt ∧ (F43 63 x1.toNatClampNeg).toInt ≤ 14) → ((F43 24 x1.toNatClampNeg).toInt < 0) → xR (1000) 121 159 ([.inr (.inr (8, 1)), .inl x1, .inl x2, .inl x3, .inl v7, .inl yjn24_5, .inl yjn27_6], [], mh h F43) Z := by
                intro F43 kjn40_0 kjn40_1 kjn40_2 kjn40_3
                refine xR.blk c121_159 ?_
                refine q_aload rfl (by decide) ?_
                refine q_iload rfl ?_
                refine v_iconst (k := 1000) rfl (fun v44 e45 => ?_)
                refine q_iload rfl ?_
                refine v_imul' e45 (by omega) (fun v46 e47 => ?_)
                refine v_iconst (k := 4) rfl (fun v48 e49 => ?_)
                refine q_iload rfl ?_
                refine v_iconst (k := 8) rfl (fun v50 e51 => ?_)
                refine v_idiv e51 (by decide) (by omega) (fun v52 e53 => ?_)
                refine v_imul' e49 (by omega) (fun v54 e55 => ?_)
                refine v_iadd (by omega) (fun v56 e57 => ?_)
                refine q_aload rfl (by decide) ?_
                refine m_gfi S ?_
                have e58 : 0 ≤ (F43 8 48).toInt ∧ (F43 8 48).toInt ≤ 3 := kjn40_0.fl (lo := 0) (hi := 3) (by decide)
                refine v_iadd (by omega) (fun v59 e60 => ?_)
                refine q_callv (j := 1) rfl (by decide) ⟨Nat.le_refl 1, Nat.le_of_eq S.1.symm⟩ (Nat.le_of_ble_eq_true rfl) (Nat.le_of_ble_eq_true rfl) (by show x_ce h + 0 ≤ 0; rw [S.2.2.1]; exact Nat.le_refl 0) (by show x_so h + 0 ≤ 0; rw [S.2.2.2]; exact Nat.le_refl 0) ?_
                refine xC.up (tv100 (h := x_setc h 0 0) (F := F43) (x1 := x1) (x2 := v59) S.set (by omega) (by unfold VC; omega) (by omega) (fun o61 F62 hp => ?_)) (by omega)
                obtain ⟨q65, rfl⟩ := hp
                obtain ⟨w66, j66, K66, i66, e66, hw66, hK66, hR66⟩ := q65
                have fr66 : ∀ K i, K ≠ 36 → K ≠ 37 → K ≠ 38 → K ≠ 41 → K ≠ 63 → K ≠ 64 → F62 K i = F43 K i := fun K i a b c d f g => by rw [e66, u2_ne (gv_ne hK66 a b c d), u2_ne f, u2_ne g]
                have M66 : MX x1.toNatClampNeg F62 := by rw [e66]; exact MX.seize kjn40_0 (by unfold VC; omega) (by omega) hK66 (by omega)
                have t66 : (F62 63 x1.toNatClampNeg).toInt = (F43 63 x1.toNatClampNeg).toInt + 1 := by rw [e66, u2_ne (gv_ne hK66 (by decide) (by decide) (by decide) (by decide)), u2_eq]; exact hw66
                have kk67 : F62 24 x1.toNatClampNeg = (F43 24 x1.toNatClampNeg) := (fr66 24 x1.toNatClampNeg (by decide) (by decide) (by decide) (by decide) (by decide) (by decide)).trans rfl
                have ki68 : (F62 24 x1.toNatClampNeg).toInt = (F43 24 x1.toNatClampNeg).toInt := by rw [kk67]
                have kk69 : F62 47 x1.toNatClampNeg = (F43 47 x1.toNatClampNeg) := (fr66 47 x1.toNatClampNeg (by decide) (by decide) (by decide) (by decide) (by decide) (by decide)).trans rfl
                have ki70 : (F62 47 x1.toNatClampNeg).toInt = (F43 47 x1.toNatClampNeg).toInt := by rw [kk69]
                have kk71 : F62 48 x1.toNatClampNeg = (F43 48 x1.toNatClampNeg) := (fr66 48 x1.toNatClampNeg (by decide) (by decide) (by decide) (by decide) (by decide) (by decide)).trans rfl
                have ki72 : (F62 48 x1.toNatClampNeg).toInt = (F43 48 x1.toNatClampNeg).toInt := by rw [kk71]
                have kk73 : F62 55 x1.toNatClampNeg = (F43 55 x1.toNatClampNeg) := (fr66 55 x1.toNatClampNeg (by decide) (by decide) (by decide) (by decide) (by decide) (by decide)).trans rfl
                have ki74 : (F62 55 x1.toNatClampNeg).toInt = (F43 55 x1.toNatClampNeg).toInt := by rw [kk73]
                have ki75 : mpop (F62 55 x1.toNatClampNeg).toInt = mpop (F43 55 x1.toNatClampNeg).toInt := by rw [kk73]
                have kk76 : F62 57 x1.toNatClampNeg = (F43 57 x1.toNatClampNeg) := (fr66 57 x1.toNatClampNeg (by decide) (by decide) (by decide) (by decide) (by decide) (by decide)).trans rfl
                have ki77 : (F62 57 x1.toNatClampNeg).toInt = (F43 57 x1.toNatClampNeg).toInt := by rw [kk76]
                show x_seq _ _ _ _ ([.inr (.inr (8, 1)), .inl x1, .inl x2, .inl x3, .inl v7, .inl yjn24_5, .inl yjn27_6], [], mh h F62)
                refine q_aload rfl (by decide) ?_
                refine m_gfr S (n := 3) (by decide) ?_
                refine q_iload rfl ?_
                refine q_iload rfl ?_
                refine v_if_eq (fun d78 => ?_) (fun d78 => ?_)
                · skip
                  refine xR.blk c121_199 ?_
                  refine q_aload rfl (by decide) ?_
                  refine m_gfi S ?_
                  have e79 : 0 ≤ (F62 8 48).toInt ∧ (F62 8 48).toInt ≤ 3 := M66.fl (lo := 0) (hi := 3) (by decide)
                  refine q_goto ?_
                  refine xR.blk c121_203 ?_
                  refine v_iconst (k := 1) rfl (fun v80 e81 => ?_)
                  refine v_iadd (by omega) (fun v82 e83 => ?_)
                  refine v_iconst (k := 4) rfl (fun v84 e85 => ?_)
                  refine v_irem e85 (by decide) (by omega) (fun v86 e87 => ?_)
                  refine m_ast (k := 25) (n := 3) S (by decide) (by omega) (by omega) ?_
                  show x_seq _ _ _ _ ([.inr (.inr (8, 1)), .inl x1, .inl x2, .inl x3, .inl v7, .inl yjn24_5, .inl yjn27_6], [], mh h (x_u2 F62 43 x2.toNatClampNeg v86))
                  refine q_aload rfl (by decide) ?_
                  refine q_iload rfl ?_
                  refine v_iconst (k := 1000) rfl (fun v88 e89 => ?_)
                  refine q_iload rfl ?_
                  refine v_imul' e89 (by omega) (fun v90 e91 => ?_)
                  refine v_iconst (k := 30) rfl (fun v92 e93 => ?_)
                  refine v_iadd (by omega) (fun v94 e95 => ?_)
                  refine q_aload rfl (by decide) ?_
                  refine m_gfr S (n := 72) (by decide) ?_
                  refine q_iload rfl ?_
                  refine m_ald (k := 33) (n := 72) S (by decide) (by omega) (by omega) ?_
                  have e96 : 0 ≤ (F62 51 x1.toNatClampNeg).toInt ∧ (F62 51 x1.toNatClampNeg).toInt ≤ 2 := M66.rg (lo := 0) (hi := 2) (by decide) _
                  show x_seq _ _ _ _ ([.inr (.inr (8, 1)), .inl x1, .inl x2, .inl x3, .inl v7, .inl yjn24_5, .inl yjn27_6], [.inl (F62 51 x1.toNatClampNeg), .inl v94, .inl x1, .inr (.inr (8, 1))], mh h (x_u2 F62 43 x2.toNatClampNeg v86))
                  refine v_iadd (by omega) (fun v97 e98 => ?_)
                  refine q_callv (j := 1) rfl (by decide) ⟨Nat.le_refl 1, Nat.le_of_eq S.1.symm⟩ (Nat.le_of_ble_eq_true rfl) (Nat.le_of_ble_eq_true rfl) (by show x_ce h + 0 ≤ 0; rw [S.2.2.1]; exact Nat.le_refl 0) (by show x_so h + 0 ≤ 0; rw [S.2.2.2]; exact Nat.le_refl 0) ?_
                  refine xC.up (tv101 (h := x_setc h 0 0) (F := (x_u2 F62 43 x2.toNatClampNeg v86)) (x1 := x1) (x2 := v97) (e := x1.toNatClampNeg) S.set (by omega) (by unfold VC; omega) (MX.put (K := 43) (i := x2.toNatClampNeg) (v := v86) M66 (fun lo hi hm => by simp only [mrl, List.mem_cons, Prod.mk.injEq, List.not_mem_nil, or_false] at hm; omega) (by decide) (fun z => absurd z (by decide)) (Or.inl rfl)) (fun o99 F100 hp => ?_)) (by omega)
                  obtain ⟨q103, rfl⟩ := hp
                  have kk104 : F100 24 x1.toNatClampNeg = (F62 24 x1.toNatClampNeg) := (q103.2.1 24 x1.toNatClampNeg (by decide) (by decide) (by decide) (by decide) (by decide) (by decide)).trans (by rw [u2_ne (by decide)])
                  have ki105 : (F100 24 x1.toNatClampNeg).toInt = (F62 24 x1.toNatClampNeg).toInt := by rw [kk104]
                  have kk106 : F100 47 x1.toNatClampNeg = (F62 47 x1.toNatClampNeg) := (q103.2.1 47 x1.toNatClampNeg (by decide) (by decide) (by decide) (by decide) (by decide) (by decide)).trans (by rw [u2_ne (by decide)])
                  have ki107 : (F100 47 x1.toNatClampNeg).toInt = (F62 47 x1.toNatClampNeg).toInt := by rw [kk106]
                  have kk108 : F100 48 x1.toNatClampNeg = (F62 48 x1.toNatClampNeg) := (q103.2.1 48 x1.toNatClampNeg (by decide) (by decide) (by decide) (by decide) (by decide) (by decide)).trans (by rw [u2_ne (by decide)])
                  have ki109 : (F100 48 x1.toNatClampNeg).toInt = (F62 48 x1.toNatClampNeg).toInt := by rw [kk108]
                  have kk110 : F100 55 x1.toNatClampNeg = (F62 55 x1.toNatClampNeg) := (q103.2.1 55 x1.toNatClampNeg (by decide) (by decide) (by decide) (by decide) (by decide) (by decide)).trans (by rw [u2_ne (by decide)])
                  have ki111 : (F100 55 x1.toNatClampNeg).toInt = (F62 55 x1.toNatClampNeg).toInt := by rw [kk110]
                  have ki112 : mpop (F100 55 x1.toNatClampNeg).toInt = mpop (F62 55 x1.toNatClampNeg).toInt := by rw [kk110]
                  have kk113 : F100 57 x1.toNatClampNeg = (F62 57 x1.toNatClampNeg) := (q103.2.1 57 x1.toNatClampNeg (by decide) (by decide) (by decide) (by decide) (by decide) (by decide)).trans (by rw [u2_ne (by decide)])
                  have ki114 : (F100 57 x1.toNatClampNeg).toInt = (F62 57 x1.toNatClampNeg).toInt := by rw [kk113]
                  have ki115 : (F100 63 x1.toNatClampNeg).toInt ≤ (F62 63 x1.toNatClampNeg).toInt := by have c9 := q103.2.2.1; rw [show (x_u2 F62 43 x2.toNatClampNeg v86) 63 x1.toNatClampNeg = (F62 63 x1.toNatClampNeg) from (by rw [u2_ne (by decide)])] at c9; exact c9
                  show x_seq _ _ _ _ ([.inr (.inr (8, 1)), .inl x1, .inl x2, .inl x3, .inl v7, .inl yjn24_5, .inl yjn27_6], [], mh h F100)
                  refine q_aload rfl (by decide) ?_
                  refine m_gfr S (n := 72) (by decide) ?_
                  refine q_iload rfl ?_
                  refine v_iconst (k := 4) rfl (fun v116 e117 => ?_)
                  refine m_ast (k := 29) (n := 72) S (by decide) (by omega) (by omega) ?_
                  show x_seq _ _ _ _ ([.inr (.inr (8, 1)), .inl x1, .inl x2, .inl x3, .inl v7, .inl yjn24_5, .inl yjn27_6], [], mh h (x_u2 F100 47 x1.toNatClampNeg v116))
                  refine q_aload rfl (by decide) ?_
                  refine m_gfr S (n := 72) (by decide) ?_
                  refine q_iload rfl ?_
                  refine v_iconst (k := 24) rfl (fun v118 e119 => ?_)
                  refine q_iload rfl ?_
                  refine v_imul' e119 (by omega) (fun v120 e121 => ?_)
                  refine q_iload rfl ?_
                  refine v_iadd (by omega) (fun v122 e123 => ?_)
                  refine m_ast (k := 39) (n := 72) S (by decide) (by omega) (by omega) ?_
                  show x_seq _ _ _ _ ([.inr (.inr (8, 1)), .inl x1, .inl x2, .inl x3, .inl v7, .inl yjn24_5, .inl yjn27_6], [], mh h (x_u2 (x_u2 F100 47 x1.toNatClampNeg v116) 57 x1.toNatClampNeg v122))
                  refine q_aload rfl (by decide) ?_
                  refine m_gfr S (n := 72) (by decide) ?_
                  refine q_aload rfl (by decide) ?_
                  refine m_gfr S (n := 72) (by decide) ?_
                  refine q_iload rfl ?_
                  refine m_ald (k := 39) (n := 72) S (by decide) (by omega) (by omega) ?_
                  rw [show (x_u2 (x_u2 F100 47 x1.toNatClampNeg v116) 57 x1.toNatClampNeg v122) 57 x1.toNatClampNeg = v122 from (by rw [u2_eq])]
                  show x_seq _ _ _ _ ([.inr (.inr (8, 1)), .inl x1, .inl x2, .inl x3, .inl v7, .inl yjn24_5, .inl yjn27_6], [.inl v122, .inr (.inr (28, 1))], mh h (x_u2 (x_u2 F100 47 x1.toNatClampNeg v116) 57 x1.toNatClampNeg v122))
                  refine q_iload rfl ?_
                  refine m_ast (k := 9) (n := 72) S (by decide) (by omega) (by omega) ?_
                  show x_seq _ _ _ _ ([.inr (.inr (8, 1)), .inl x1, .inl x2, .inl x3, .inl v7, .inl yjn24_5, .inl yjn27_6], [], mh h (x_u2 (x_u2 (x_u2 F100 47 x1.toNatClampNeg v116) 57 x1.toNatClampNeg v122) 28 v122.toNatClampNeg x1))
                  exact q_ret (hZ _ _ ⟨⟨(MX.close (MX.put (K := 28) (i := v122.toNatClampNeg) (v := x1) (MX.put (K := 57) (i := x1.toNatClampNeg) (v := v122) (MX.put (K := 47) (i := x1.toNatClampNeg) (v := v116) q103.1 (fun lo hi hm => by simp only [mrl, List.mem_cons, Prod.mk.injEq, List.not_mem_nil, or_false] at hm; omega) (by decide) (fun z => absurd z (by decide)) (Or.inr rfl)) (fun lo hi hm => by simp only [mrl, List.mem_cons, Prod.mk.injEq, List.not_mem_nil, or_false] at hm; omega) (by decide) (fun z => absurd z (by decide)) (Or.inr rfl)) (fun lo hi hm => by simp only [mrl, List.mem_cons, Prod.mk.injEq, List.not_mem_nil, or_false] at hm; omega) (by decide) (fun z => absurd z (by decide)) (Or.inl rfl)) (by unfold SL; rw [show (x_u2 (x_u2 (x_u2 F100 47 x1.toNatClampNeg v116) 57 x1.toNatClampNeg v122) 28 v122.toNatClampNeg x1) 47 x1.toNatClampNeg = v116 from (by rw [u2_ne (by decide), u2_ne (by decide), u2_eq]), show (x_u2 (x_u2 (x_u2 F100 47 x1.toNatClampNeg v116) 57 x1.toNatClampNeg v122) 28 v122.toNatClampNeg x1) 48 x1.toNatClampNeg = (F100 48 x1.toNatClampNeg) from (by rw [u2_ne (by decide), u2_ne (by decide), u2_ne (by decide)]), show (x_u2 (x_u2 (x_u2 F100 47 x1.toNatClampNeg v116) 57 x1.toNatClampNeg v122) 28 v122.toNatClampNeg x1) 63 x1.toNatClampNeg = (F100 63 x1.toNatClampNeg) from (by rw [u2_ne (by decide), u2_ne (by decide), u2_ne (by decide)]), show (x_u2 (x_u2 (x_u2 F100 47 x1.toNatClampNeg v116) 57 x1.toNatClampNeg v122) 28 v122.toNatClampNeg x1) 55 x1.toNatClampNeg = (F100 55 x1.toNatClampNeg) from (by rw [u2_ne (by decide), u2_ne (by decide), u2_ne (by decide)]), show (x_u2 (x_u2 (x_u2 F100 47 x1.toNatClampNeg v116) 57 x1.toNatClampNeg v122) 28 v122.toNatClampNeg x1) 57 x1.toNatClampNeg = v122 from (by rw [u2_ne (by decide), u2_eq]), show (x_u2 (x_u2 (x_u2 F100 47 x1.toNatClampNeg v116) 57 x1.toNatClampNeg v122) 28 v122.toNatClampNeg x1) 24 x1.toNatClampNeg = (F100 24 x1.toNatClampNeg) from (by rw [u2_ne (by decide), u2_ne (by decide), u2_ne (by decide)])]; exact ⟨fun z => by omega, fun z => by omega, fun z => by omega, fun z => by omega⟩)), (FR.put (K := 28) (i := v122.toNatClampNeg) (v := x1) (FR.put (K := 57) (i := x1.toNatClampNeg) (v := v122) (FR.put (K := 47) (i := x1.toNatClampNeg) (v := v116) (FR.trans (FR.put (K := 43) (i := x2.toNatClampNeg) (v := v86) (FR.trans kjn40_1 (FR.rel fr66)) rfl) (FR.rel q103.2.1)) rfl) rfl) rfl)⟩, rfl⟩)
                · skip
                  refine q_aload rfl (by decide) ?_
                  refine m_gfi S ?_
                  have e124 : 0 ≤ (F62 8 47).toInt ∧ (F62 8 47).toInt ≤ 3 := M66.fl (lo := 0) (hi := 3) (by decide)
                  refine q_goto ?_
                  refine xR.blk c121_203 ?_
                  refine v_iconst (k := 1) rfl (fun v125 e126 => ?_)
                  refine v_iadd (by omega) (fun v127 e128 => ?_)
                  refine v_iconst (k := 4) rfl (fun v129 e130 => ?_)
                  refine v_irem e130 (by decide) (by omega) (fun v131 e132 => ?_)
                  refine m_ast (k := 25) (n := 3) S (by decide) (by omega) (by omega) ?_
                  show x_seq _ _ _ _ ([.inr (.inr (8, 1)), .inl x1, .inl x2, .inl x3, .inl v7, .inl yjn24_5, .inl yjn27_6], [], mh h (x_u2 F62 43 x2.toNatClampNeg v131))
                  refine q_aload rfl (by decide) ?_
                  refine q_iload rfl ?_
                  refine v_iconst (k := 1000) rfl (fun v133 e134 => ?_)
                  refine q_iload rfl ?_
                  refine v_imul' e134 (by omega) (fun v135 e136 => ?_)
                  refine v_iconst (k := 30) rfl (fun v137 e138 => ?_)
                  refine v_iadd (by omega) (fun v139 e140 => ?_)
                  refine q_aload rfl (by decide) ?_
                  refine m_gfr S (n := 72) (by decide) ?_
                  refine q_iload rfl ?_
                  refine m_ald (k := 33) (n := 72) S (by decide) (by omega) (by omega) ?_
                  have e141 : 0 ≤ (F62 51 x1.toNatClampNeg).toInt ∧ (F62 51 x1.toNatClampNeg).toInt ≤ 2 := M66.rg (lo := 0) (hi := 2) (by decide) _
                  show x_seq _ _ _ _ ([.inr (.inr (8, 1)), .inl x1, .inl x2, .inl x3, .inl v7, .inl yjn24_5, .inl yjn27_6], [.inl (F62 51 x1.toNatClampNeg), .inl v139, .inl x1, .inr (.inr (8, 1))], mh h (x_u2 F62 43 x2.toNatClampNeg v131))
                  refine v_iadd (by omega) (fun v142 e143 => ?_)
                  refine q_callv (j := 1) rfl (by decide) ⟨Nat.le_refl 1, Nat.le_of_eq S.1.symm⟩ (Nat.le_of_ble_eq_true rfl) (Nat.le_of_ble_eq_true rfl) (by show x_ce h + 0 ≤ 0; rw [S.2.2.1]; exact Nat.le_refl 0) (by show x_so h + 0 ≤ 0; rw [S.2.2.2]; exact Nat.le_refl 0) ?_
                  refine xC.up (tv101 (h := x_setc h 0 0) (F := (x_u2 F62 43 x2.toNatClampNeg v131)) (x1 := x1) (x2 := v142) (e := x1.toNatClampNeg) S.set (by omega) (by unfold VC; omega) (MX.put (K := 43) (i := x2.toNatClampNeg) (v := v131) M66 (fun lo hi hm => by simp only [mrl, List.mem_cons, Prod.mk.injEq, List.not_mem_nil, or_false] at hm; omega) (by decide) (fun z => absurd z (by decide)) (Or.inl rfl)) (fun o144 F145 hp => ?_)) (by omega)
                  obtain ⟨q148, rfl⟩ := hp
                  have kk149 : F145 24 x1.toNatClampNeg = (F62 24 x1.toNatClampNeg) := (q148.2.1 24 x1.toNatClampNeg (by decide) (by decide) (by decide) (by decide) (by decide) (by decide)).trans (by rw [u2_ne (by decide)])
                  have ki150 : (F145 24 x1.toNatClampNeg).toInt = (F62 24 x1.toNatClampNeg).toInt := by rw [kk149]
                  have kk151 : F145 47 x1.toNatClampNeg = (F62 47 x1.toNatClampNeg) := (q148.2.1 47 x1.toNatClampNeg (by decide) (by decide) (by decide) (by decide) (by decide) (by decide)).trans (by rw [u2_ne (by decide)])
                  have ki152 : (F145 47 x1.toNatClampNeg).toInt = (F62 47 x1.toNatClampNeg).toInt := by rw [kk151]
                  have kk153 : F145 48 x1.toNatClampNeg = (F62 48 x1.toNatClampNeg) := (q148.2.1 48 x1.toNatClampNeg (by decide) (by decide) (by decide) (by decide) (by decide) (by decide)).trans (by rw [u2_ne (by decide)])
                  have ki154 : (F145 48 x1.toNatClampNeg).toInt = (F62 48 x1.toNatClampNeg).toInt := by rw [kk153]
                  have kk155 : F145 55 x1.toNatClampNeg = (F62 55 x1.toNatClampNeg) := (q148.2.1 55 x1.toNatClampNeg (by decide) (by decide) (by decide) (by decide) (by decide) (by decide)).trans (by rw [u2_ne (by decide)])
                  have ki156 : (F145 55 x1.toNatClampNeg).toInt = (F62 55 x1.toNatClampNeg).toInt := by rw [kk155]
                  have ki157 : mpop (F145 55 x1.toNatClampNeg).toInt = mpop (F62 55 x1.toNatClampNeg).toInt := by rw [kk155]
                  have kk158 : F145 57 x1.toNatClampNeg = (F62 57 x1.toNatClampNeg) := (q148.2.1 57 x1.toNatClampNeg (by decide) (by decide) (by decide) (by decide) (by decide) (by decide)).trans (by rw [u2_ne (by decide)])
                  have ki159 : (F145 57 x1.toNatClampNeg).toInt = (F62 57 x1.toNatClampNeg).toInt := by rw [kk158]
                  have ki160 : (F145 63 x1.toNatClampNeg).toInt ≤ (F62 63 x1.toNatClampNeg).toInt := by have c9 := q148.2.2.1; rw [show (x_u2 F62 43 x2.toNatClampNeg v131) 63 x1.toNatClampNeg = (F62 63 x1.toNatClampNeg) from (by rw [u2_ne (by decide)])] at c9; exact c9
                  show x_seq _ _ _ _ ([.inr (.inr (8, 1)), .inl x1, .inl x2, .inl x3, .inl v7, .inl yjn24_5, .inl yjn27_6], [], mh h F145)
                  refine q_aload rfl (by decide) ?_
                  refine m_gfr S (n := 72) (by decide) ?_
                  refine q_iload rfl ?_
                  refine v_iconst (k := 4) rfl (fun v161 e162 => ?_)
                  refine m_ast (k := 29) (n := 72) S (by decide) (by omega) (by omega) ?_
                  show x_seq _ _ _ _ ([.inr (.inr (8, 1)), .inl x1, .inl x2, .inl x3, .inl v7, .inl yjn24_5, .inl yjn27_6], [], mh h (x_u2 F145 47 x1.toNatClampNeg v161))
                  refine q_aload rfl (by decide) ?_
                  refine m_gfr S (n := 72) (by decide) ?_
                  refine q_iload rfl ?_
                  refine v_iconst (k := 24) rfl (fun v163 e164 => ?_)
                  refine q_iload rfl ?_
                  refine v_imul' e164 (by omega) (fun v165 e166 => ?_)
                  refine q_iload rfl ?_
                  refine v_iadd (by omega) (fun v167 e168 => ?_)
                  refine m_ast (k := 39) (n := 72) S (by decide) (by omega) (by omega) ?_
                  show x_seq _ _ _ _ ([.inr (.inr (8, 1)), .inl x1, .inl x2, .inl x3, .inl v7, .inl yjn24_5, .inl yjn27_6], [], mh h (x_u2 (x_u2 F145 47 x1.toNatClampNeg v161) 57 x1.toNatClampNeg v167))
                  refine q_aload rfl (by decide) ?_
                  refine m_gfr S (n := 72) (by decide) ?_
                  refine q_aload rfl (by decide) ?_
                  refine m_gfr S (n := 72) (by decide) ?_
                  refine q_iload rfl ?_
                  refine m_ald (k := 39) (n := 72) S (by decide) (by omega) (by omega) ?_
                  rw [show (x_u2 (x_u2 F145 47 x1.toNatClampNeg v161) 57 x1.toNatClampNeg v167) 57 x1.toNatClampNeg = v167 from (by rw [u2_eq])]
                  show x_seq _ _ _ _ ([.inr (.inr (8, 1)), .inl x1, .inl x2, .inl x3, .inl v7, .inl yjn24_5, .inl yjn27_6], [.inl v167, .inr (.inr (28, 1))], mh h (x_u2 (x_u2 F145 47 x1.toNatClampNeg v161) 57 x1.toNatClampNeg v167))
                  refine q_iload rfl ?_
                  refine m_ast (k := 9) (n := 72) S (by decide) (by omega) (by omega) ?_
                  show x_seq _ _ _ _ ([.inr (.inr (8, 1)), .inl x1, .inl x2, .inl x3, .inl v7, .inl yjn24_5, .inl yjn27_6], [], mh h (x_u2 (x_u2 (x_u2 F145 47 x1.toNatClampNeg v161) 57 x1.toNatClampNeg v167) 28 v167.toNatClampNeg x1))
                  exact q_ret (hZ _ _ ⟨⟨(MX.close (MX.put (K := 28) (i := v167.toNatClampNeg) (v := x1) (MX.put (K := 57) (i := x1.toNatClampNeg) (v := v167) (MX.put (K := 47) (i := x1.toNatClampNeg) (v := v161) q148.1 (fun lo hi hm => by simp only [mrl, List.mem_cons, Prod.mk.injEq, List.not_mem_nil, or_false] at hm; omega) (by decide) (fun z => absurd z (by decide)) (Or.inr rfl)) (fun lo hi hm => by simp only [mrl, List.mem_cons, Prod.mk.injEq, List.not_mem_nil, or_false] at hm; omega) (by decide) (fun z => absurd z (by decide)) (Or.inr rfl)) (fun lo hi hm => by simp only [mrl, List.mem_cons, Prod.mk.injEq, List.not_mem_nil, or_false] at hm; omega) (by decide) (fun z => absurd z (by decide)) (Or.inl rfl)) (by unfold SL; rw [show (x_u2 (x_u2 (x_u2 F145 47 x1.toNatClampNeg v161) 57 x1.toNatClampNeg v167) 28 v167.toNatClampNeg x1) 47 x1.toNatClampNeg = v161 from (by rw [u2_ne (by decide), u2_ne (by decide), u2_eq]), show (x_u2 (x_u2 (x_u2 F145 47 x1.toNatClampNeg v161) 57 x1.toNatClampNeg v167) 28 v167.toNatClampNeg x1) 48 x1.toNatClampNeg = (F145 48 x1.toNatClampNeg) from (by rw [u2_ne (by decide), u2_ne (by decide), u2_ne (by decide)]), show (x_u2 (x_u2 (x_u2 F145 47 x1.toNatClampNeg v161) 57 x1.toNatClampNeg v167) 28 v167.toNatClampNeg x1) 63 x1.toNatClampNeg = (F145 63 x1.toNatClampNeg) from (by rw [u2_ne (by decide), u2_ne (by decide), u2_ne (by decide)]), show (x_u2 (x_u2 (x_u2 F145 47 x1.toNatClampNeg v161) 57 x1.toNatClampNeg v167) 28 v167.toNatClampNeg x1) 55 x1.toNatClampNeg = (F145 55 x1.toNatClampNeg) from (by rw [u2_ne (by decide), u2_ne (by decide), u2_ne (by decide)]), show (x_u2 (x_u2 (x_u2 F145 47 x1.toNatClampNeg v161) 57 x1.toNatClampNeg v167) 28 v167.toNatClampNeg x1) 57 x1.toNatClampNeg = v167 from (by rw [u2_ne (by decide), u2_eq]), show (x_u2 (x_u2 (x_u2 F145 47 x1.toNatClampNeg v161) 57 x1.toNatClampNeg v167) 28 v167.toNatClampNeg x1) 24 x1.toNatClampNeg = (F145 24 x1.toNatClampNeg) from (by rw [u2_ne (by decide), u2_ne (by decide), u2_ne (by decide)])]; exact ⟨fun z => by omega, fun z => by omega, fun z => by omega, fun z => by omega⟩)), (FR.put (K := 28) (i := v167.toNatClampNeg) (v := x1) (FR.put (K := 57) (i := x1.toNatClampNeg) (v := v167) (FR.put (K := 47) (i := x1.toNatClampNeg) (v := v161) (FR.trans (FR.put (K := 43) (i := x2.toNatClampNeg) (v := v131) (FR.trans kjn40_1 (FR.rel fr66)) rfl) (FR.rel q148.2.1)) rfl) rfl) rfl)⟩, rfl⟩)
              have jn169 : ∀ (F172 : xF), (MX x1.toNatClampNeg F172) → (FR F F172) → (0 ≤ (F172 63 x1.toNatClampNeg).toInt ∧ (F172 63 x1.toNatClampNeg).toInt ≤ 13) → ((F172 24 x1.toNatClampNeg).toInt < 0) → xR (1100) 121 138 ([.inr (.inr (8, 1)), .inl x1, .inl x2, .inl x3, .inl v7, .inl yjn24_5, .inl yjn27_6], [], mh h F172) Z := by
                intro F172 kjn169_0 kjn169_1 kjn169_2 kjn169_3
                refine xR.blk c121_138 ?_
                refine q_iload rfl ?_
                refine v_if_eq (fun d173 => ?_) (fun d173 => ?_)
                · skip
                  exact (jn40  F172 (kjn169_0) (kjn169_1) (by omega) (by omega)).up (by omega)
                · skip
                  refine q_aload rfl (by decide) ?_
                  refine q_iload rfl ?_
                  refine v_iconst (k := 1000) rfl (fun v174 e175 => ?_)
                  refine q_iload rfl ?_
                  refine v_imul' e175 (by omega) (fun v176 e177 => ?_)
                  refine v_iconst (k := 20) rfl (fun v178 e179 => ?_)
                  refine v_iadd (by omega) (fun v180 e181 => ?_)
                  refine q_iload rfl ?_
                  refine v_iadd (by omega) (fun v182 e183 => ?_)
                  refine q_callv (j := 1) rfl (by decide) ⟨Nat.le_refl 1, Nat.le_of_eq S.1.symm⟩ (Nat.le_of_ble_eq_true rfl) (Nat.le_of_ble_eq_true rfl) (by show x_ce h + 0 ≤ 0; rw [S.2.2.1]; exact Nat.le_refl 0) (by show x_so h + 0 ≤ 0; rw [S.2.2.2]; exact Nat.le_refl 0) ?_
                  refine xC.up (tv100 (h := x_setc h 0 0) (F := F172) (x1 := x1) (x2 := v182) S.set (by omega) (by unfold VC; omega) (by omega) (fun o184 F185 hp => ?_)) (by omega)
                  obtain ⟨q188, rfl⟩ := hp
                  obtain ⟨w189, j189, K189, i189, e189, hw189, hK189, hR189⟩ := q188
                  have fr189 : ∀ K i, K ≠ 36 → K ≠ 37 → K ≠ 38 → K ≠ 41 → K ≠ 63 → K ≠ 64 → F185 K i = F172 K i := fun K i a b c d f g => by rw [e189, u2_ne (gv_ne hK189 a b c d), u2_ne f, u2_ne g]
                  have M189 : MX x1.toNatClampNeg F185 := by rw [e189]; exact MX.seize kjn169_0 (by unfold VC; omega) (by omega) hK189 (by omega)
                  have t189 : (F185 63 x1.toNatClampNeg).toInt = (F172 63 x1.toNatClampNeg).toInt + 1 := by rw [e189, u2_ne (gv_ne hK189 (by decide) (by decide) (by decide) (by decide)), u2_eq]; exact hw189
                  have kk190 : F185 24 x1.toNatClampNeg = (F172 24 x1.toNatClampNeg) := (fr189 24 x1.toNatClampNeg (by decide) (by decide) (by decide) (by decide) (by decide) (by decide)).trans rfl
                  have ki191 : (F185 24 x1.toNatClampNeg).toInt = (F172 24 x1.toNatClampNeg).toInt := by rw [kk190]
                  have kk192 : F185 47 x1.toNatClampNeg = (F172 47 x1.toNatClampNeg) := (fr189 47 x1.toNatClampNeg (by decide) (by decide) (by decide) (by decide) (by decide) (by decide)).trans rfl
                  have ki193 : (F185 47 x1.toNatClampNeg).toInt = (F172 47 x1.toNatClampNeg).toInt := by rw [kk192]
                  have kk194 : F185 48 x1.toNatClampNeg = (F172 48 x1.toNatClampNeg) := (fr189 48 x1.toNatClampNeg (by decide) (by decide) (by decide) (by decide) (by decide) (by decide)).trans rfl
                  have ki195 : (F185 48 x1.toNatClampNeg).toInt = (F172 48 x1.toNatClampNeg).toInt := by rw [kk194]
                  have kk196 : F185 55 x1.toNatClampNeg = (F172 55 x1.toNatClampNeg) := (fr189 55 x1.toNatClampNeg (by decide) (by decide) (by decide) (by decide) (by decide) (by decide)).trans rfl
                  have ki197 : (F185 55 x1.toNatClampNeg).toInt = (F172 55 x1.toNatClampNeg).toInt := by rw [kk196]
                  have ki198 : mpop (F185 55 x1.toNatClampNeg).toInt = mpop (F172 55 x1.toNatClampNeg).toInt := by rw [kk196]
                  have kk199 : F185 57 x1.toNatClampNeg = (F172 57 x1.toNatClampNeg) := (fr189 57 x1.toNatClampNeg (by decide) (by decide) (by decide) (by decide) (by decide) (by decide)).trans rfl
                  have ki200 : (F185 57 x1.toNatClampNeg).toInt = (F172 57 x1.toNatClampNeg).toInt := by rw [kk199]
                  show x_seq _ _ _ _ ([.inr (.inr (8, 1)), .inl x1, .inl x2, .inl x3, .inl v7, .inl yjn24_5, .inl yjn27_6], [], mh h F185)
                  refine q_goto ?_
                  exact (jn40  F185 (M189) ((FR.trans kjn169_1 (FR.rel fr189))) (by omega) (by omega)).up (by omega)
              refine xR.blk c121_108 ?_
              refine q_iload rfl ?_
              refine v_if_eq (fun d201 => ?_) (fun d201 => ?_)
              · skip
                exact (jn169  F31 (q34.1) ((FR.trans FR.rfl' (FR.way q34.2.1 q34.2.2.1 q34.2.2.2))) (by omega) (by omega)).up (by omega)
              · skip
                refine q_aload rfl (by decide) ?_
                refine q_iload rfl ?_
                refine v_iconst (k := 1000) rfl (fun v202 e203 => ?_)
                refine q_iload rfl ?_
                refine v_imul' e203 (by omega) (fun v204 e205 => ?_)
                refine v_iconst (k := 4) rfl (fun v206 e207 => ?_)
                refine q_iload rfl ?_
                refine v_iconst (k := 24) rfl (fun v208 e209 => ?_)
                refine v_irem e209 (by decide) (by omega) (fun v210 e211 => ?_)
                refine v_iconst (k := 8) rfl (fun v212 e213 => ?_)
                refine v_idiv e213 (by decide) (by omega) (fun v214 e215 => ?_)
                refine v_imul' e207 (by omega) (fun v216 e217 => ?_)
                refine v_iadd (by omega) (fun v218 e219 => ?_)
                refine q_aload rfl (by decide) ?_
                refine m_gfi S ?_
                have e220 : 0 ≤ (F31 8 47).toInt ∧ (F31 8 47).toInt ≤ 3 := q34.1.fl (lo := 0) (hi := 3) (by decide)
                refine v_iadd (by omega) (fun v221 e222 => ?_)
                refine q_callv (j := 1) rfl (by decide) ⟨Nat.le_refl 1, Nat.le_of_eq S.1.symm⟩ (Nat.le_of_ble_eq_true rfl) (Nat.le_of_ble_eq_true rfl) (by show x_ce h + 0 ≤ 0; rw [S.2.2.1]; exact Nat.le_refl 0) (by show x_so h + 0 ≤ 0; rw [S.2.2.2]; exact Nat.le_refl 0) ?_
                refine xC.up (tv100 (h := x_setc h 0 0) (F := F31) (x1 := x1) (x2 := v221) S.set (by omega) (by unfold VC; omega) (by omega) (fun o223 F224 hp => ?_)) (by omega)
                obtain ⟨q227, rfl⟩ := hp
                obtain ⟨w228, j228, K228, i228, e228, hw228, hK228, hR228⟩ := q227
                have fr228 : ∀ K i, K ≠ 36 → K ≠ 37 → K ≠ 38 → K ≠ 41 → K ≠ 63 → K ≠ 64 → F224 K i = F31 K i := fun K i a b c d f g => by rw [e228, u2_ne (gv_ne hK228 a b c d), u2_ne f, u2_ne g]
                have M228 : MX x1.toNatClampNeg F224 := by rw [e228]; exact MX.seize q34.1 (by unfold VC; omega) (by omega) hK228 (by omega)
                have t228 : (F224 63 x1.toNatClampNeg).toInt = (F31 63 x1.toNatClampNeg).toInt + 1 := by rw [e228, u2_ne (gv_ne hK228 (by decide) (by decide) (by decide) (by decide)), u2_eq]; exact hw228
                have kk229 : F224 24 x1.toNatClampNeg = (F31 24 x1.toNatClampNeg) := (fr228 24 x1.toNatClampNeg (by decide) (by decide) (by decide) (by decide) (by decide) (by decide)).trans rfl
                have ki230 : (F224 24 x1.toNatClampNeg).toInt = (F31 24 x1.toNatClampNeg).toInt := by rw [kk229]
                have kk231 : F224 47 x1.toNatClampNeg = (F31 47 x1.toNatClampNeg) := (fr228 47 x1.toNatClampNeg (by decide) (by decide) (by decide) (by decide) (by decide) (by decide)).trans rfl
                have ki232 : (F224 47 x1.toNatClampNeg).toInt = (F31 47 x1.toNatClampNeg).toInt := by rw [kk231]
                have kk233 : F224 48 x1.toNatClampNeg = (F31 48 x1.toNatClampNeg) := (fr228 48 x1.toNatClampNeg (by decide) (by decide) (by decide) (by decide) (by decide) (by decide)).trans rfl
                have ki234 : (F224 48 x1.toNatClampNeg).toInt = (F31 48 x1.toNatClampNeg).toInt := by rw [kk233]
                have kk235 : F224 55 x1.toNatClampNeg = (F31 55 x1.toNatClampNeg) := (fr228 55 x1.toNatClampNeg (by decide) (by decide) (by decide) (by decide) (by decide) (by decide)).trans rfl
                have ki236 : (F224 55 x1.toNatClampNeg).toInt = (F31 55 x1.toNatClampNeg).toInt := by rw [kk235]
                have ki237 : mpop (F224 55 x1.toNatClampNeg).toInt = mpop (F31 55 x1.toNatClampNeg).toInt := by rw [kk235]
                have kk238 : F224 57 x1.toNatClampNeg = (F31 57 x1.toNatClampNeg) := (fr228 57 x1.toNatClampNeg (by decide) (by decide) (by decide) (by decide) (by decide) (by decide)).trans rfl
                have ki239 : (F224 57 x1.toNatClampNeg).toInt = (F31 57 x1.toNatClampNeg).toInt := by rw [kk238]
                show x_seq _ _ _ _ ([.inr (.inr (8, 1)), .inl x1, .inl x2, .inl x3, .inl v7, .inl yjn24_5, .inl yjn27_6], [], mh h F224)
                refine q_goto ?_
                exact (jn169  F224 (M228) ((FR.trans (FR.trans FR.rfl' (FR.way q34.2.1 q34.2.2.1 q34.2.2.2)) (FR.rel fr228))) (by omega) (by omega)).up (by omega)
            · skip
              refine q_goto ?_
              refine xR.blk c121_101 ?_
              refine q_aload rfl (by decide) ?_
              refine q_iload rfl ?_
              refine v_iconst (k := 4) rfl (fun v240 e241 => ?_)
              refine q_callv (j := 1) rfl (by decide) ⟨Nat.le_refl 1, Nat.le_of_eq S.1.symm⟩ (Nat.le_of_ble_eq_true rfl) (Nat.le_of_ble_eq_true rfl) (by show x_ce h + 0 ≤ 0; rw [S.2.2.1]; exact Nat.le_refl 0) (by show x_so h + 0 ≤ 0; rw [S.2.2.2]; exact Nat.le_refl 0) ?_
              refine xC.up (tv105 (h := x_setc h 0 0) (F := F31) (x1 := x1) (x2 := v240) (e := x1.toNatClampNeg) S.set (by omega) q34.1 (Or.inl rfl) (fun o242 F243 hp => ?_)) (by omega)
              obtain ⟨q246, rfl⟩ := hp
              show x_seq _ _ _ _ ([.inr (.inr (8, 1)), .inl x1, .inl x2, .inl x3, .inl v7, .inl yjn24_5, .inl yjn27_6], [], mh h F243)
              exact q_ret (hZ _ _ ⟨⟨q246.1, (FR.trans (FR.trans FR.rfl' (FR.way q34.2.1 q34.2.2.1 q34.2.2.2)) q246.2)⟩, rfl⟩)
          refine xR.blk c121_71 ?_
          refine q_istore (Nat.le_of_ble_eq_true rfl) ?_
          show x_seq _ _ _ _ ([.inr (.inr (8, 1)), .inl x1, .inl x2, .inl x3, .inl v7, .inl yjn24_5, .inl sjn24_0], [], mh h F)
          refine q_iload rfl ?_
          refine v_if_lt (fun d247 => ?_) (fun d247 => ?_)
          · skip
            refine xR.blk c121_101 ?_
            refine q_aload rfl (by decide) ?_
            refine q_iload rfl ?_
            refine v_iconst (k := 4) rfl (fun v248 e249 => ?_)
            refine q_callv (j := 1) rfl (by decide) ⟨Nat.le_refl 1, Nat.le_of_eq S.1.symm⟩ (Nat.le_of_ble_eq_true rfl) (Nat.le_of_ble_eq_true rfl) (by show x_ce h + 0 ≤ 0; rw [S.2.2.1]; exact Nat.le_refl 0) (by show x_so h + 0 ≤ 0; rw [S.2.2.2]; exact Nat.le_refl 0) ?_
            refine xC.up (tv105 (h := x_setc h 0 0) (F := F) (x1 := x1) (x2 := v248) (e := x1.toNatClampNeg) S.set (by omega) M (Or.inl rfl) (fun o250 F251 hp => ?_)) (by omega)
            obtain ⟨q254, rfl⟩ := hp
            show x_seq _ _ _ _ ([.inr (.inr (8, 1)), .inl x1, .inl x2, .inl x3, .inl v7, .inl yjn24_5, .inl sjn24_0], [], mh h F251)
            exact q_ret (hZ _ _ ⟨⟨q254.1, (FR.trans FR.rfl' q254.2)⟩, rfl⟩)
          · skip
            refine q_aload rfl (by decide) ?_
            refine q_iload rfl ?_
            refine q_iload rfl ?_
            refine v_if_eq (fun d255 => ?_) (fun d255 => ?_)
            · skip
              refine xR.blk c121_92 ?_
              refine v_iconst (k := -1) rfl (fun v256 e257 => ?_)
              refine q_goto ?_
              exact (jn27 sjn24_0 v256 (by omega) (by omega)).up (by omega)
            · skip
              refine q_iload rfl ?_
              refine v_iconst (k := 24) rfl (fun v258 e259 => ?_)
              refine v_irem e259 (by decide) (by omega) (fun v260 e261 => ?_)
              refine q_goto ?_
              exact (jn27 sjn24_0 v260 (by omega) (by omega)).up (by omega)
        refine xR.blk c121_55 ?_
        refine q_istore (Nat.le_of_ble_eq_true rfl) ?_
        show x_seq _ _ _ _ ([.inr (.inr (8, 1)), .inl x1, .inl x2, .inl x3, .inl v7, .inl sjn21_0, .inr (.inr (0, 0))], [], mh h F)
        refine q_iload rfl ?_
        refine v_if_eq (fun d262 => ?_) (fun d262 => ?_)
        · skip
          refine xR.blk c121_70 ?_
          refine v_iconst (k := 0) rfl (fun v263 e264 => ?_)
          refine q_goto ?_
          exact (jn24 sjn21_0 v263 (by omega)).up (by omega)
        · skip
          refine q_aload rfl (by decide) ?_
          refine q_iload rfl ?_
          refine q_callv (j := 1) rfl (by decide) ⟨Nat.le_refl 1, Nat.le_of_eq S.1.symm⟩ (Nat.le_of_ble_eq_true rfl) (Nat.le_of_ble_eq_true rfl) (by show x_ce h + 0 ≤ 0; rw [S.2.2.1]; exact Nat.le_refl 0) (by show x_so h + 0 ≤ 0; rw [S.2.2.2]; exact Nat.le_refl 0) ?_
          refine xC.up (tv120 (h := x_setc h 0 0) (F := F) (x1 := x2) S.set (by omega) (fun o265 F266 hp => ?_)) (by omega)
          obtain ⟨hF269, ⟨v268, rfl, q267⟩⟩ := hp
          rw [hF269]
          show x_seq _ _ _ _ ([.inr (.inr (8, 1)), .inl x1, .inl x2, .inl x3, .inl v7, .inl sjn21_0, .inr (.inr (0, 0))], [.inl v268], mh h F)
          refine q_goto ?_
          exact (jn24 sjn21_0 v268 (by omega)).up (by omega)
      refine xR.blk c121_42 ?_
      refine q_iload rfl ?_
      refine v_iconst (k := 24) rfl (fun v270 e271 => ?_)
      refine v_idiv e271 (by decide) (by omega) (fun v272 e273 => ?_)
      refine q_iload rfl ?_
      refine v_icmp_ne (fun d274 => ?_) (fun d274 => ?_)
      · skip
        refine xR.blk c121_54 ?_
        refine v_iconst (k := 0) rfl (fun v275 e276 => ?_)
        refine q_goto ?_
        exact (jn21 v275 (by omega)).up (by omega)
      · skip
        refine v_iconst (k := 1) rfl (fun v277 e278 => ?_)
        refine q_goto ?_
        exact (jn21 v277 (by omega)).up (by omega)
    · skip
      refine q_aload rfl (by decide) ?_
      refine q_iload rfl ?_
      refine v_iconst (k := 3) rfl (fun v279 e280 => ?_)
      refine q_callv (j := 1) rfl (by decide) ⟨Nat.le_refl 1, Nat.le_of_eq S.1.symm⟩ (Nat.le_of_ble_eq_true rfl) (Nat.le_of_ble_eq_true rfl) (by show x_ce h + 0 ≤ 0; rw [S.2.2.1]; exact Nat.le_refl 0) (by show x_so h + 0 ≤ 0; rw [S.2.2.2]; exact Nat.le_refl 0) ?_
      refine xC.up (tv105 (h := x_setc h 0 0) (F := F) (x1 := x1) (x2 := v279) (e := x1.toNatClampNeg) S.set (by omega) M (Or.inl rfl) (fun o281 F282 hp => ?_)) (by omega)
      obtain ⟨q285, rfl⟩ := hp
      show x_seq _ _ _ _ ([.inr (.inr (8, 1)), .inl x1, .inl x2, .inl x3, .inl v7, .inr (.inr (0, 0)), .inr (.inr (0, 0))], [], mh h F282)
      exact q_ret (hZ _ _ ⟨⟨q285.1, (FR.trans FR.rfl' q285.2)⟩, rfl⟩)
  · skip
    refine q_aload rfl (by decide) ?_
    refine q_iload rfl ?_
    refine v_iconst (k := 5) rfl (fun v286 e287 => ?_)
    refine q_callv (j := 1) rfl (by decide) ⟨Nat.le_refl 1, Nat.le_of_eq S.1.symm⟩ (Nat.le_of_ble_eq_true rfl) (Nat.le_of_ble_eq_true rfl) (by show x_ce h + 0 ≤ 0; rw [S.2.2.1]; exact Nat.le_refl 0) (by show x_so h + 0 ≤ 0; rw [S.2.2.2]; exact Nat.le_refl 0) ?_
    refine xC.up (tv105 (h := x_setc h 0 0) (F := F) (x1 := x1) (x2 := v286) (e := x1.toNatClampNeg) S.set (by omega) M (Or.inl rfl) (fun o288 F289 hp => ?_)) (by omega)
    obtain ⟨q292, rfl⟩ := hp
    show x_seq _ _ _ _ ([.inr (.inr (8, 1)), .inl x1, .inl x2, .inl x3, .inr (.inr (0, 0)), .inr (.inr (0, 0)), .inr (.inr (0, 0))], [], mh h F289)
    exact q_ret (hZ _ _ ⟨⟨q292.1, (FR.trans FR.rfl' q292.2)⟩, rfl⟩)
theorem tv123 {h : xH} {Z : xO → xH → Prop} {F : xF} {x1 : Int32} {x2 : Int32} {x3 : Int32} (S : MS h) (g1 : 0 ≤ x1.toInt ∧ x1.toInt ≤ 71) (g2 : 0 ≤ x2.toInt ∧ x2.toInt ≤ 2) (g3 : 0 ≤ x3.toInt ∧ x3.toInt ≤ 35) (M : MX x1.toNatClampNeg F) (gT : (F 63 x1.toNatClampNeg).toInt ≤ 3 * mpop (F 55 x1.toNatClampNeg).toInt - 2) (gW : (F 24 x1.toNatClampNeg).toInt < 0) (hZ : ∀ (o : xO) (F' : xF), (MX 72 F' ∧ FR F F') ∧ (o = .inl none) → Z o (mh h F')) : xC 30000 123 [.inr (.inr (8, 1)), .inl x1, .inl x2, .inl x3] (mh h F) Z := by
  refine ⟨rfl, S.2.2.1, S.2.2.2, ?_⟩
  have c1 := x_clamp g1.1
  have r63 := M.rg (K := 63) (lo := 0) (hi := 16) (by decide) x1.toNatClampNeg
  show xR _ 123 0 ([.inr (.inr (8, 1)), .inl x1, .inl x2, .inl x3, .inr (.inr (0, 0)), .inr (.inr (0, 0)), .inr (.inr (0, 0)), .inr (.inr (0, 0)), .inr (.inr (0, 0))], [], mh h F) Z
  have jn1 : ∀ (sjn1_0 : Int32), (0 ≤ sjn1_0.toInt ∧ sjn1_0.toInt ≤ 1) → xR (29900) 123 13 ([.inr (.inr (8, 1)), .inl x1, .inl x2, .inl x3, .inr (.inr (0, 0)), .inr (.inr (0, 0)), .inr (.inr (0, 0)), .inr (.inr (0, 0)), .inr (.inr (0, 0))], [.inl sjn1_0], mh h F) Z := by
    intro sjn1_0 kjn1_0
    refine xR.blk c123_13 ?_
    refine q_istore (Nat.le_of_ble_eq_true rfl) ?_
    show x_seq _ _ _ _ ([.inr (.inr (8, 1)), .inl x1, .inl x2, .inl x3, .inl sjn1_0, .inr (.inr (0, 0)), .inr (.inr (0, 0)), .inr (.inr (0, 0)), .inr (.inr (0, 0))], [], mh h F)
    refine v_iconst (k := 0) rfl (fun v4 e5 => ?_)
    refine q_istore (Nat.le_of_ble_eq_true rfl) ?_
    show x_seq _ _ _ _ ([.inr (.inr (8, 1)), .inl x1, .inl x2, .inl x3, .inl sjn1_0, .inl v4, .inr (.inr (0, 0)), .inr (.inr (0, 0)), .inr (.inr (0, 0))], [], mh h F)
    refine q_goto ?_
    have lp6 : ∀ (m7 : Nat) (ylp6_5 : Int32) (zlp6_6 : xV) (zlp6_7 : xV) (zlp6_8 : xV) (F9 : xF), (MX x1.toNatClampNeg F9) → (FR F F9) → (0 ≤ ylp6_5.toInt ∧ ylp6_5.toInt ≤ 3) → (0 ≤ (F9 63 x1.toNatClampNeg).toInt ∧ (F9 63 x1.toNatClampNeg).toInt ≤ 3 * mpop (F9 55 x1.toNatClampNeg).toInt - 2) → ((F9 24 x1.toNatClampNeg).toInt < 0) → (3 - ylp6_5.toInt).toNat < m7 → xR (12000 + 3000 * m7) 123 18 ([.inr (.inr (8, 1)), .inl x1, .inl x2, .inl x3, .inl sjn1_0, .inl ylp6_5, zlp6_6, zlp6_7, zlp6_8], [], mh h F9) Z := by
      intro m7
      induction m7 with
      | zero => intro ylp6_5 zlp6_6 zlp6_7 zlp6_8 F9 klp6_0 klp6_1 klp6_2 klp6_3 klp6_4 kmlp6; exact absurd kmlp6 (by omega)
      | succ m7 ih8 =>
        intro ylp6_5 zlp6_6 zlp6_7 zlp6_8 F9 klp6_0 klp6_1 klp6_2 klp6_3 klp6_4 kmlp6
        rw [show 12000 + 3000 * (m7 + 1) = 12000 + 3000 * m7 + 3000 by omega]
        refine xR.blk c123_18 ?_
        refine q_iload rfl ?_
        refine q_aload rfl (by decide) ?_
        refine m_gfr S (n := 36) (by decide) ?_
        refine q_iload rfl ?_
        refine m_ald (k := 14) (n := 36) S (by decide) (by omega) (by omega) ?_
        have e10 : 0 ≤ (F9 33 x3.toNatClampNeg).toInt ∧ (F9 33 x3.toNatClampNeg).toInt ≤ 3 := klp6_0.rg (lo := 0) (hi := 3) (by decide) _
        refine v_icmp_ge (fun d11 => ?_) (fun d11 => ?_)
        · skip
          refine xR.blk c123_257 ?_
          refine q_aload rfl (by decide) ?_
          refine q_iload rfl ?_
          refine v_iconst (k := 4) rfl (fun v12 e13 => ?_)
          refine q_callv (j := 1) rfl (by decide) ⟨Nat.le_refl 1, Nat.le_of_eq S.1.symm⟩ (Nat.le_of_ble_eq_true rfl) (Nat.le_of_ble_eq_true rfl) (by show x_ce h + 0 ≤ 0; rw [S.2.2.1]; exact Nat.le_refl 0) (by show x_so h + 0 ≤ 0; rw [S.2.2.2]; exact Nat.le_refl 0) ?_
          refine xC.up (tv105 (h := x_setc h 0 0) (F := F9) (x1 := x1) (x2 := v12) (e := x1.toNatClampNeg) S.set (by omega) klp6_0 (Or.inl rfl) (fun o14 F15 hp => ?_)) (by omega)
          obtain ⟨q18, rfl⟩ := hp
          show x_seq _ _ _ _ ([.inr (.inr (8, 1)), .inl x1, .inl x2, .inl x3, .inl sjn1_0, .inl ylp6_5, zlp6_6, zlp6_7, zlp6_8], [], mh h F15)
          exact q_ret (hZ _ _ ⟨⟨q18.1, (FR.trans klp6_1 q18.2)⟩, rfl⟩)
        · skip
          refine q_aload rfl (by decide) ?_
          refine m_gfr S (n := 108) (by decide) ?_
          refine v_iconst (k := 3) rfl (fun v19 e20 => ?_)
          refine q_iload rfl ?_
          refine v_imul' e20 (by omega) (fun v21 e22 => ?_)
          refine q_iload rfl ?_
          refine v_iadd (by omega) (fun v23 e24 => ?_)
          refine m_ald (k := 16) (n := 108) S (by decide) (by omega) (by omega) ?_
          have e25 : 0 ≤ (F9 35 v23.toNatClampNeg).toInt ∧ (F9 35 v23.toNatClampNeg).toInt ≤ 2 := klp6_0.rg (lo := 0) (hi := 2) (by decide) _
          refine q_istore (Nat.le_of_ble_eq_true rfl) ?_
          show x_seq _ _ _ _ ([.inr (.inr (8, 1)), .inl x1, .inl x2, .inl x3, .inl sjn1_0, .inl ylp6_5, .inl (F9 35 v23.toNatClampNeg), zlp6_7, zlp6_8], [], mh h F9)
          refine q_aload rfl (by decide) ?_
          refine m_gfr S (n := 72) (by decide) ?_
          refine q_iload rfl ?_
          refine m_ald (k := 37) (n := 72) S (by decide) (by omega) (by omega) ?_
          have e26 : 0 ≤ (F9 55 x1.toNatClampNeg).toInt ∧ (F9 55 x1.toNatClampNeg).toInt ≤ 7 := klp6_0.rg (lo := 0) (hi := 7) (by decide) _
          refine q_iload rfl ?_
          refine q_bin ?_
          show x_seq _ _ _ _ ([.inr (.inr (8, 1)), .inl x1, .inl x2, .inl x3, .inl sjn1_0, .inl ylp6_5, .inl (F9 35 v23.toNatClampNeg), zlp6_7, zlp6_8], [.inl ((F9 55 x1.toNatClampNeg) >>> ((F9 35 v23.toNatClampNeg) &&& 31))], mh h F9)
          refine v_iconst (k := 1) rfl (fun v29 e30 => ?_)
          refine q_bin ?_
          show x_seq _ _ _ _ ([.inr (.inr (8, 1)), .inl x1, .inl x2, .inl x3, .inl sjn1_0, .inl ylp6_5, .inl (F9 35 v23.toNatClampNeg), zlp6_7, zlp6_8], [.inl (((F9 55 x1.toNatClampNeg) >>> ((F9 35 v23.toNatClampNeg) &&& 31)) &&& v29)], mh h F9)
          refine v_iconst (k := 1) rfl (fun v33 e34 => ?_)
          refine v_icmp_ne (fun d35 => ?_) (fun d35 => ?_)
          · skip
            have hvis : ¬ (((F9 55 x1.toNatClampNeg) >>> ((F9 35 v23.toNatClampNeg) &&& 31)) &&& v29).toInt = 1 := by omega
            have hor := m_or' (v := (F9 55 x1.toNatClampNeg)) (x := (F9 35 v23.toNatClampNeg)) (u := v29) (w := 1) (by omega) rfl (by omega) (by omega) hvis
            have hp2 : mpop (F9 55 x1.toNatClampNeg).toInt ≤ 2 := by have c9 := mpop_le hor.1; omega
            refine xR.blk c123_60 ?_
            refine q_aload rfl (by decide) ?_
            refine q_iload rfl ?_
            refine q_iload rfl ?_
            refine q_callv (j := 1) rfl (by decide) ⟨Nat.le_refl 1, Nat.le_of_eq S.1.symm⟩ (Nat.le_of_ble_eq_true rfl) (Nat.le_of_ble_eq_true rfl) (by show x_ce h + 0 ≤ 0; rw [S.2.2.1]; exact Nat.le_refl 0) (by show x_so h + 0 ≤ 0; rw [S.2.2.2]; exact Nat.le_refl 0) ?_
            refine xC.up (tv122 (h := x_setc h 0 0) (F := F9) (x1 := x2) (x2 := (F9 35 v23.toNatClampNeg)) (e := x1.toNatClampNeg) S.set klp6_0 (fun o36 F37 hp => ?_)) (by omega)
            obtain ⟨hF40, ⟨v39, rfl, q38⟩⟩ := hp
            rw [hF40]
            show x_seq _ _ _ _ ([.inr (.inr (8, 1)), .inl x1, .inl x2, .inl x3, .inl sjn1_0, .inl ylp6_5, .inl (F9 35 v23.toNatClampNeg), zlp6_7, zlp6_8], [.inl v39], mh h F9)
            refine q_istore (Nat.le_of_ble_eq_true rfl) ?_
            show x_seq _ _ _ _ ([.inr (.inr (8, 1)), .inl x1, .inl x2, .inl x3, .inl sjn1_0, .inl ylp6_5, .inl (F9 35 v23.toNatClampNeg), .inl v39, zlp6_8], [], mh h F9)
            refine q_iload rfl ?_
            refine v_if_ge (fun d41 => ?_) (fun d41 => ?_)
            · skip
              refine xR.blk c123_92 ?_
              refine q_aload rfl (by decide) ?_
              refine q_iload rfl ?_
              refine q_callv (j := 1) rfl (by decide) ⟨Nat.le_refl 1, Nat.le_of_eq S.1.symm⟩ (Nat.le_of_ble_eq_true rfl) (Nat.le_of_ble_eq_true rfl) (by show x_ce h + 0 ≤ 0; rw [S.2.2.1]; exact Nat.le_refl 0) (by show x_so h + 0 ≤ 0; rw [S.2.2.2]; exact Nat.le_refl 0) ?_
              refine xC.up (tv107 (h := x_setc h 0 0) (F := F9) (x1 := (F9 35 v23.toNatClampNeg)) S.set (by omega) (fun o42 F43 hp => ?_)) (by omega)
              obtain ⟨hF46, ⟨v45, rfl, q44⟩⟩ := hp
              rw [hF46]
              show x_seq _ _ _ _ ([.inr (.inr (8, 1)), .inl x1, .inl x2, .inl x3, .inl sjn1_0, .inl ylp6_5, .inl (F9 35 v23.toNatClampNeg), .inl v39, zlp6_8], [.inl v45], mh h F9)
              refine q_istore (Nat.le_of_ble_eq_true rfl) ?_
              show x_seq _ _ _ _ ([.inr (.inr (8, 1)), .inl x1, .inl x2, .inl x3, .inl sjn1_0, .inl ylp6_5, .inl (F9 35 v23.toNatClampNeg), .inl v39, .inl v45], [], mh h F9)
              refine q_iload rfl ?_
              refine v_if_lt (fun d47 => ?_) (fun d47 => ?_)
              · skip
                refine xR.blk c123_251 ?_
                refine v_iinc (k := 1) rfl rfl (by omega) (by omega) (fun v48 e49 => ?_)
                show x_seq _ _ _ _ ([.inr (.inr (8, 1)), .inl x1, .inl x2, .inl x3, .inl sjn1_0, .inl v48, .inl (F9 35 v23.toNatClampNeg), .inl v39, .inl v45], [], mh h F9)
                refine q_goto ?_
                exact (ih8 v48 (.inl (F9 35 v23.toNatClampNeg)) (.inl v39) (.inl v45) F9 (klp6_0) (klp6_1) (by omega) (by omega) (by omega) (by omega)).up (by omega)
              · skip
                refine q_iload rfl ?_
                refine v_if_eq (fun d50 => ?_) (fun d50 => ?_)
                · skip
                  refine xR.blk c123_126 ?_
                  refine q_iload rfl ?_
                  refine v_if_eq (fun d51 => ?_) (fun d51 => ?_)
                  · skip
                    refine xR.blk c123_170 ?_
                    refine q_aload rfl (by decide) ?_
                    refine q_iload rfl ?_
                    refine v_iconst (k := 5000) rfl (fun v52 e53 => ?_)
                    refine q_iload rfl ?_
                    refine v_iadd (by omega) (fun v54 e55 => ?_)
                    refine q_callv (j := 1) rfl (by decide) ⟨Nat.le_refl 1, Nat.le_of_eq S.1.symm⟩ (Nat.le_of_ble_eq_true rfl) (Nat.le_of_ble_eq_true rfl) (by show x_ce h + 0 ≤ 0; rw [S.2.2.1]; exact Nat.le_refl 0) (by show x_so h + 0 ≤ 0; rw [S.2.2.2]; exact Nat.le_refl 0) ?_
                    refine xC.up (tv100 (h := x_setc h 0 0) (F := F9) (x1 := x1) (x2 := v54) S.set (by omega) (by unfold VC; omega) (by omega) (fun o56 F57 hp => ?_)) (by omega)
                    obtain ⟨q60, rfl⟩ := hp
                    obtain ⟨w61, j61, K61, i61, e61, hw61, hK61, hR61⟩ := q60
                    have fr61 : ∀ K i, K ≠ 36 → K ≠ 37 → K ≠ 38 → K ≠ 41 → K ≠ 63 → K ≠ 64 → F57 K i = F9 K i := fun K i a b c d f g => by rw [e61, u2_ne (gv_ne hK61 a b c d), u2_ne f, u2_ne g]
                    have M61 : MX x1.toNatClampNeg F57 := by rw [e61]; exact MX.seize klp6_0 (by unfold VC; omega) (by omega) hK61 (by omega)
                    have t61 : (F57 63 x1.toNatClampNeg).toInt = (F9 63 x1.toNatClampNeg).toInt + 1 := by rw [e61, u2_ne (gv_ne hK61 (by decide) (by decide) (by decide) (by decide)), u2_eq]; exact hw61
                    have kk62 : F57 24 x1.toNatClampNeg = (F9 24 x1.toNatClampNeg) := (fr61 24 x1.toNatClampNeg (by decide) (by decide) (by decide) (by decide) (by decide) (by decide)).trans rfl
                    have ki63 : (F57 24 x1.toNatClampNeg).toInt = (F9 24 x1.toNatClampNeg).toInt := by rw [kk62]
                    have kk64 : F57 47 x1.toNatClampNeg = (F9 47 x1.toNatClampNeg) := (fr61 47 x1.toNatClampNeg (by decide) (by decide) (by decide) (by decide) (by decide) (by decide)).trans rfl
                    have ki65 : (F57 47 x1.toNatClampNeg).toInt = (F9 47 x1.toNatClampNeg).toInt := by rw [kk64]
                    have kk66 : F57 48 x1.toNatClampNeg = (F9 48 x1.toNatClampNeg) := (fr61 48 x1.toNatClampNeg (by decide) (by decide) (by decide) (by decide) (by decide) (by decide)).trans rfl
                    have ki67 : (F57 48 x1.toNatClampNeg).toInt = (F9 48 x1.toNatClampNeg).toInt := by rw [kk66]
                    have kk68 : F57 55 x1.toNatClampNeg = (F9 55 x1.toNatClampNeg) := (fr61 55 x1.toNatClampNeg (by decide) (by decide) (by decide) (by decide) (by decide) (by decide)).trans rfl
                    have ki69 : (F57 55 x1.toNatClampNeg).toInt = (F9 55 x1.toNatClampNeg).toInt := by rw [kk68]
                    have ki70 : mpop (F57 55 x1.toNatClampNeg).toInt = mpop (F9 55 x1.toNatClampNeg).toInt := by rw [kk68]
                    have kk71 : F57 57 x1.toNatClampNeg = (F9 57 x1.toNatClampNeg) := (fr61 57 x1.toNatClampNeg (by decide) (by decide) (by decide) (by decide) (by decide) (by decide)).trans rfl
                    have ki72 : (F57 57 x1.toNatClampNeg).toInt = (F9 57 x1.toNatClampNeg).toInt := by rw [kk71]
                    show x_seq _ _ _ _ ([.inr (.inr (8, 1)), .inl x1, .inl x2, .inl x3, .inl sjn1_0, .inl ylp6_5, .inl (F9 35 v23.toNatClampNeg), .inl v39, .inl v45], [], mh h F57)
                    refine q_aload rfl (by decide) ?_
                    refine q_iload rfl ?_
                    refine v_iconst (k := 1000) rfl (fun v73 e74 => ?_)
                    refine q_iload rfl ?_
                    refine v_imul' e74 (by omega) (fun v75 e76 => ?_)
                    refine v_iconst (k := 30) rfl (fun v77 e78 => ?_)
                    refine v_iadd (by omega) (fun v79 e80 => ?_)
                    refine q_iload rfl ?_
                    refine v_iadd (by omega) (fun v81 e82 => ?_)
                    refine q_callv (j := 1) rfl (by decide) ⟨Nat.le_refl 1, Nat.le_of_eq S.1.symm⟩ (Nat.le_of_ble_eq_true rfl) (Nat.le_of_ble_eq_true rfl) (by show x_ce h + 0 ≤ 0; rw [S.2.2.1]; exact Nat.le_refl 0) (by show x_so h + 0 ≤ 0; rw [S.2.2.2]; exact Nat.le_refl 0) ?_
                    refine xC.up (tv100 (h := x_setc h 0 0) (F := F57) (x1 := x1) (x2 := v81) S.set (by omega) (by unfold VC; omega) (by omega) (fun o83 F84 hp => ?_)) (by omega)
                    obtain ⟨q87, rfl⟩ := hp
                    obtain ⟨w88, j88, K88, i88, e88, hw88, hK88, hR88⟩ := q87
                    have fr88 : ∀ K i, K ≠ 36 → K ≠ 37 → K ≠ 38 → K ≠ 41 → K ≠ 63 → K ≠ 64 → F84 K i = F57 K i := fun K i a b c d f g => by rw [e88, u2_ne (gv_ne hK88 a b c d), u2_ne f, u2_ne g]
                    have M88 : MX x1.toNatClampNeg F84 := by rw [e88]; exact MX.seize M61 (by unfold VC; omega) (by omega) hK88 (by omega)
                    have t88 : (F84 63 x1.toNatClampNeg).toInt = (F57 63 x1.toNatClampNeg).toInt + 1 := by rw [e88, u2_ne (gv_ne hK88 (by decide) (by decide) (by decide) (by decide)), u2_eq]; exact hw88
                    have kk89 : F84 24 x1.toNatClampNeg = (F57 24 x1.toNatClampNeg) := (fr88 24 x1.toNatClampNeg (by decide) (by decide) (by decide) (by decide) (by decide) (by decide)).trans rfl
                    have ki90 : (F84 24 x1.toNatClampNeg).toInt = (F57 24 x1.toNatClampNeg).toInt := by rw [kk89]
                    have kk91 : F84 47 x1.toNatClampNeg = (F57 47 x1.toNatClampNeg) := (fr88 47 x1.toNatClampNeg (by decide) (by decide) (by decide) (by decide) (by decide) (by decide)).trans rfl
                    have ki92 : (F84 47 x1.toNatClampNeg).toInt = (F57 47 x1.toNatClampNeg).toInt := by rw [kk91]
                    have kk93 : F84 48 x1.toNatClampNeg = (F57 48 x1.toNatClampNeg) := (fr88 48 x1.toNatClampNeg (by decide) (by decide) (by decide) (by decide) (by decide) (by decide)).trans rfl
                    have ki94 : (F84 48 x1.toNatClampNeg).toInt = (F57 48 x1.toNatClampNeg).toInt := by rw [kk93]
                    have kk95 : F84 55 x1.toNatClampNeg = (F57 55 x1.toNatClampNeg) := (fr88 55 x1.toNatClampNeg (by decide) (by decide) (by decide) (by decide) (by decide) (by decide)).trans rfl
                    have ki96 : (F84 55 x1.toNatClampNeg).toInt = (F57 55 x1.toNatClampNeg).toInt := by rw [kk95]
                    have ki97 : mpop (F84 55 x1.toNatClampNeg).toInt = mpop (F57 55 x1.toNatClampNeg).toInt := by rw [kk95]
                    have kk98 : F84 57 x1.toNatClampNeg = (F57 57 x1.toNatClampNeg) := (fr88 57 x1.toNatClampNeg (by decide) (by decide) (by decide) (by decide) (by decide) (by decide)).trans rfl
                    have ki99 : (F84 57 x1.toNatClampNeg).toInt = (F57 57 x1.toNatClampNeg).toInt := by rw [kk98]
                    show x_seq _ _ _ _ ([.inr (.inr (8, 1)), .inl x1, .inl x2, .inl x3, .inl sjn1_0, .inl ylp6_5, .inl (F9 35 v23.toNatClampNeg), .inl v39, .inl v45], [], mh h F84)
                    refine q_aload rfl (by decide) ?_
                    refine m_gfr S (n := 72) (by decide) ?_
                    refine q_iload rfl ?_
                    refine q_aload rfl (by decide) ?_
                    refine m_gfr S (n := 72) (by decide) ?_
                    refine q_iload rfl ?_
                    refine m_ald (k := 37) (n := 72) S (by decide) (by omega) (by omega) ?_
                    have e100 : 0 ≤ (F84 55 x1.toNatClampNeg).toInt ∧ (F84 55 x1.toNatClampNeg).toInt ≤ 7 := M88.rg (lo := 0) (hi := 7) (by decide) _
                    refine v_iconst (k := 1) rfl (fun v101 e102 => ?_)
                    refine q_iload rfl ?_
                    refine q_bin ?_
                    show x_seq _ _ _ _ ([.inr (.inr (8, 1)), .inl x1, .inl x2, .inl x3, .inl sjn1_0, .inl ylp6_5, .inl (F9 35 v23.toNatClampNeg), .inl v39, .inl v45], [.inl (v101 <<< ((F9 35 v23.toNatClampNeg) &&& 31)), .inl (F84 55 x1.toNatClampNeg), .inl x1, .inr (.inr (55, 1))], mh h F84)
                    refine q_bin ?_
                    show x_seq _ _ _ _ ([.inr (.inr (8, 1)), .inl x1, .inl x2, .inl x3, .inl sjn1_0, .inl ylp6_5, .inl (F9 35 v23.toNatClampNeg), .inl v39, .inl v45], [.inl ((F84 55 x1.toNatClampNeg) ||| (v101 <<< ((F9 35 v23.toNatClampNeg) &&& 31))), .inl x1, .inr (.inr (55, 1))], mh h F84)
                    have hor2 : (0 ≤ ((F84 55 x1.toNatClampNeg) ||| (v101 <<< ((F9 35 v23.toNatClampNeg) &&& 31))).toInt ∧ ((F84 55 x1.toNatClampNeg) ||| (v101 <<< ((F9 35 v23.toNatClampNeg) &&& 31))).toInt ≤ 7) ∧ mpop ((F84 55 x1.toNatClampNeg) ||| (v101 <<< ((F9 35 v23.toNatClampNeg) &&& 31))).toInt = mpop (F9 55 x1.toNatClampNeg).toInt + 1 := by rw [kk95, kk68]; exact m_or' (u := v29) (by omega) (by omega) (by omega) (by omega) hvis
                    refine m_ast (k := 37) (n := 72) S (by decide) (by omega) (by omega) ?_
                    show x_seq _ _ _ _ ([.inr (.inr (8, 1)), .inl x1, .inl x2, .inl x3, .inl sjn1_0, .inl ylp6_5, .inl (F9 35 v23.toNatClampNeg), .inl v39, .inl v45], [], mh h (x_u2 F84 55 x1.toNatClampNeg ((F84 55 x1.toNatClampNeg) ||| (v101 <<< ((F9 35 v23.toNatClampNeg) &&& 31)))))
                    refine q_aload rfl (by decide) ?_
                    refine m_gfr S (n := 72) (by decide) ?_
                    refine q_iload rfl ?_
                    refine v_iconst (k := 3) rfl (fun v107 e108 => ?_)
                    refine m_ast (k := 29) (n := 72) S (by decide) (by omega) (by omega) ?_
                    show x_seq _ _ _ _ ([.inr (.inr (8, 1)), .inl x1, .inl x2, .inl x3, .inl sjn1_0, .inl ylp6_5, .inl (F9 35 v23.toNatClampNeg), .inl v39, .inl v45], [], mh h (x_u2 (x_u2 F84 55 x1.toNatClampNeg ((F84 55 x1.toNatClampNeg) ||| (v101 <<< ((F9 35 v23.toNatClampNeg) &&& 31)))) 47 x1.toNatClampNeg v107))
                    refine q_aload rfl (by decide) ?_
                    refine m_gfr S (n := 72) (by decide) ?_
                    refine q_iload rfl ?_
                    refine q_aload rfl (by decide) ?_
                    refine m_gfr S (n := 72) (by decide) ?_
                    refine q_iload rfl ?_
                    refine m_ald (k := 30) (n := 72) S (by decide) (by omega) (by omega) ?_
                    have e109 : 0 ≤ (F84 48 x1.toNatClampNeg).toInt ∧ (F84 48 x1.toNatClampNeg).toInt ≤ 5 := M88.rg (lo := 0) (hi := 5) (by decide) _
                    show x_seq _ _ _ _ ([.inr (.inr (8, 1)), .inl x1, .inl x2, .inl x3, .inl sjn1_0, .inl ylp6_5, .inl (F9 35 v23.toNatClampNeg), .inl v39, .inl v45], [.inl (F84 48 x1.toNatClampNeg), .inl x1, .inr (.inr (52, 1))], mh h (x_u2 (x_u2 F84 55 x1.toNatClampNeg ((F84 55 x1.toNatClampNeg) ||| (v101 <<< ((F9 35 v23.toNatClampNeg) &&& 31)))) 47 x1.toNatClampNeg v107))
                    refine m_ast (k := 34) (n := 72) S (by decide) (by omega) (by omega) ?_
                    show x_seq _ _ _ _ ([.inr (.inr (8, 1)), .inl x1, .inl x2, .inl x3, .inl sjn1_0, .inl ylp6_5, .inl (F9 35 v23.toNatClampNeg), .inl v39, .inl v45], [], mh h (x_u2 (x_u2 (x_u2 F84 55 x1.toNatClampNeg ((F84 55 x1.toNatClampNeg) ||| (v101 <<< ((F9 35 v23.toNatClampNeg) &&& 31)))) 47 x1.toNatClampNeg v107) 52 x1.toNatClampNeg (F84 48 x1.toNatClampNeg)))
                    refine q_aload rfl (by decide) ?_
                    refine m_gfr S (n := 72) (by decide) ?_
                    refine q_iload rfl ?_
                    refine q_iload rfl ?_
                    refine m_ast (k := 35) (n := 72) S (by decide) (by omega) (by omega) ?_
                    show x_seq _ _ _ _ ([.inr (.inr (8, 1)), .inl x1, .inl x2, .inl x3, .inl sjn1_0, .inl ylp6_5, .inl (F9 35 v23.toNatClampNeg), .inl v39, .inl v45], [], mh h (x_u2 (x_u2 (x_u2 (x_u2 F84 55 x1.toNatClampNeg ((F84 55 x1.toNatClampNeg) ||| (v101 <<< ((F9 35 v23.toNatClampNeg) &&& 31)))) 47 x1.toNatClampNeg v107) 52 x1.toNatClampNeg (F84 48 x1.toNatClampNeg)) 53 x1.toNatClampNeg (F9 35 v23.toNatClampNeg)))
                    refine q_aload rfl (by decide) ?_
                    refine m_gfr S (n := 72) (by decide) ?_
                    refine q_iload rfl ?_
                    refine q_iload rfl ?_
                    refine m_ast (k := 36) (n := 72) S (by decide) (by omega) (by omega) ?_
                    show x_seq _ _ _ _ ([.inr (.inr (8, 1)), .inl x1, .inl x2, .inl x3, .inl sjn1_0, .inl ylp6_5, .inl (F9 35 v23.toNatClampNeg), .inl v39, .inl v45], [], mh h (x_u2 (x_u2 (x_u2 (x_u2 (x_u2 F84 55 x1.toNatClampNeg ((F84 55 x1.toNatClampNeg) ||| (v101 <<< ((F9 35 v23.toNatClampNeg) &&& 31)))) 47 x1.toNatClampNeg v107) 52 x1.toNatClampNeg (F84 48 x1.toNatClampNeg)) 53 x1.toNatClampNeg (F9 35 v23.toNatClampNeg)) 54 x1.toNatClampNeg v45))
                    exact q_ret (hZ _ _ ⟨⟨(MX.close (MX.put (K := 54) (i := x1.toNatClampNeg) (v := v45) (MX.put (K := 53) (i := x1.toNatClampNeg) (v := (F9 35 v23.toNatClampNeg)) (MX.put (K := 52) (i := x1.toNatClampNeg) (v := (F84 48 x1.toNatClampNeg)) (MX.put (K := 47) (i := x1.toNatClampNeg) (v := v107) (MX.put (K := 55) (i := x1.toNatClampNeg) (v := ((F84 55 x1.toNatClampNeg) ||| (v101 <<< ((F9 35 v23.toNatClampNeg) &&& 31)))) M88 (fun lo hi hm => by simp only [mrl, List.mem_cons, Prod.mk.injEq, List.not_mem_nil, or_false] at hm; omega) (by decide) (fun z => absurd z (by decide)) (Or.inr rfl)) (fun lo hi hm => by simp only [mrl, List.mem_cons, Prod.mk.injEq, List.not_mem_nil, or_false] at hm; omega) (by decide) (fun z => absurd z (by decide)) (Or.inr rfl)) (fun lo hi hm => by simp only [mrl, List.mem_cons, Prod.mk.injEq, List.not_mem_nil, or_false] at hm; omega) (by decide) (fun z => absurd z (by decide)) (Or.inl rfl)) (fun lo hi hm => by simp only [mrl, List.mem_cons, Prod.mk.injEq, List.not_mem_nil, or_false] at hm; omega) (by decide) (fun z => absurd z (by decide)) (Or.inl rfl)) (fun lo hi hm => by simp only [mrl, List.mem_cons, Prod.mk.injEq, List.not_mem_nil, or_false] at hm; omega) (by decide) (fun z => absurd z (by decide)) (Or.inl rfl)) (by unfold SL; rw [show (x_u2 (x_u2 (x_u2 (x_u2 (x_u2 F84 55 x1.toNatClampNeg ((F84 55 x1.toNatClampNeg) ||| (v101 <<< ((F9 35 v23.toNatClampNeg) &&& 31)))) 47 x1.toNatClampNeg v107) 52 x1.toNatClampNeg (F84 48 x1.toNatClampNeg)) 53 x1.toNatClampNeg (F9 35 v23.toNatClampNeg)) 54 x1.toNatClampNeg v45) 47 x1.toNatClampNeg = v107 from (by rw [u2_ne (by decide), u2_ne (by decide), u2_ne (by decide), u2_eq]), show (x_u2 (x_u2 (x_u2 (x_u2 (x_u2 F84 55 x1.toNatClampNeg ((F84 55 x1.toNatClampNeg) ||| (v101 <<< ((F9 35 v23.toNatClampNeg) &&& 31)))) 47 x1.toNatClampNeg v107) 52 x1.toNatClampNeg (F84 48 x1.toNatClampNeg)) 53 x1.toNatClampNeg (F9 35 v23.toNatClampNeg)) 54 x1.toNatClampNeg v45) 48 x1.toNatClampNeg = (F84 48 x1.toNatClampNeg) from (by rw [u2_ne (by decide), u2_ne (by decide), u2_ne (by decide), u2_ne (by decide), u2_ne (by decide)]), show (x_u2 (x_u2 (x_u2 (x_u2 (x_u2 F84 55 x1.toNatClampNeg ((F84 55 x1.toNatClampNeg) ||| (v101 <<< ((F9 35 v23.toNatClampNeg) &&& 31)))) 47 x1.toNatClampNeg v107) 52 x1.toNatClampNeg (F84 48 x1.toNatClampNeg)) 53 x1.toNatClampNeg (F9 35 v23.toNatClampNeg)) 54 x1.toNatClampNeg v45) 63 x1.toNatClampNeg = (F84 63 x1.toNatClampNeg) from (by rw [u2_ne (by decide), u2_ne (by decide), u2_ne (by decide), u2_ne (by decide), u2_ne (by decide)]), show (x_u2 (x_u2 (x_u2 (x_u2 (x_u2 F84 55 x1.toNatClampNeg ((F84 55 x1.toNatClampNeg) ||| (v101 <<< ((F9 35 v23.toNatClampNeg) &&& 31)))) 47 x1.toNatClampNeg v107) 52 x1.toNatClampNeg (F84 48 x1.toNatClampNeg)) 53 x1.toNatClampNeg (F9 35 v23.toNatClampNeg)) 54 x1.toNatClampNeg v45) 55 x1.toNatClampNeg = ((F84 55 x1.toNatClampNeg) ||| (v101 <<< ((F9 35 v23.toNatClampNeg) &&& 31))) from (by rw [u2_ne (by decide), u2_ne (by decide), u2_ne (by decide), u2_ne (by decide), u2_eq]), show (x_u2 (x_u2 (x_u2 (x_u2 (x_u2 F84 55 x1.toNatClampNeg ((F84 55 x1.toNatClampNeg) ||| (v101 <<< ((F9 35 v23.toNatClampNeg) &&& 31)))) 47 x1.toNatClampNeg v107) 52 x1.toNatClampNeg (F84 48 x1.toNatClampNeg)) 53 x1.toNatClampNeg (F9 35 v23.toNatClampNeg)) 54 x1.toNatClampNeg v45) 57 x1.toNatClampNeg = (F84 57 x1.toNatClampNeg) from (by rw [u2_ne (by decide), u2_ne (by decide), u2_ne (by decide), u2_ne (by decide), u2_ne (by decide)]), show (x_u2 (x_u2 (x_u2 (x_u2 (x_u2 F84 55 x1.toNatClampNeg ((F84 55 x1.toNatClampNeg) ||| (v101 <<< ((F9 35 v23.toNatClampNeg) &&& 31)))) 47 x1.toNatClampNeg v107) 52 x1.toNatClampNeg (F84 48 x1.toNatClampNeg)) 53 x1.toNatClampNeg (F9 35 v23.toNatClampNeg)) 54 x1.toNatClampNeg v45) 24 x1.toNatClampNeg = (F84 24 x1.toNatClampNeg) from (by rw [u2_ne (by decide), u2_ne (by decide), u2_ne (by decide), u2_ne (by decide), u2_ne (by decide)])]; exact ⟨fun z => by omega, fun z => by omega, fun z => by omega, fun z => by omega⟩)), (FR.put (K := 54) (i := x1.toNatClampNeg) (v := v45) (FR.put (K := 53) (i := x1.toNatClampNeg) (v := (F9 35 v23.toNatClampNeg)) (FR.put (K := 52) (i := x1.toNatClampNeg) (v := (F84 48 x1.toNatClampNeg)) (FR.put (K := 47) (i := x1.toNatClampNeg) (v := v107) (FR.put (K := 55) (i := x1.toNatClampNeg) (v := ((F84 55 x1.toNatClampNeg) ||| (v101 <<< ((F9 35 v23.toNatClampNeg) &&& 31)))) (FR.trans (FR.trans klp6_1 (FR.rel fr61)) (FR.rel fr88)) rfl) rfl) rfl) rfl) rfl)⟩, rfl⟩)
                  · skip
                    refine q_aload rfl (by decide) ?_
                    refine q_iload rfl ?_
                    refine v_iconst (k := 1000) rfl (fun v110 e111 => ?_)
                    refine q_iload rfl ?_
                    refine v_imul' e111 (by omega) (fun v112 e113 => ?_)
                    refine v_iconst (k := 4) rfl (fun v114 e115 => ?_)
                    refine q_iload rfl ?_
                    refine v_iconst (k := 24) rfl (fun v116 e117 => ?_)
                    refine v_irem e117 (by decide) (by omega) (fun v118 e119 => ?_)
                    refine v_iconst (k := 8) rfl (fun v120 e121 => ?_)
                    refine v_idiv e121 (by decide) (by omega) (fun v122 e123 => ?_)
                    refine v_imul' e115 (by omega) (fun v124 e125 => ?_)
                    refine v_iadd (by omega) (fun v126 e127 => ?_)
                    refine q_aload rfl (by decide) ?_
                    refine m_gfi S ?_
                    have e128 : 0 ≤ (F9 8 47).toInt ∧ (F9 8 47).toInt ≤ 3 := klp6_0.fl (lo := 0) (hi := 3) (by decide)
                    refine v_iadd (by omega) (fun v129 e130 => ?_)
                    refine q_callv (j := 1) rfl (by decide) ⟨Nat.le_refl 1, Nat.le_of_eq S.1.symm⟩ (Nat.le_of_ble_eq_true rfl) (Nat.le_of_ble_eq_true rfl) (by show x_ce h + 0 ≤ 0; rw [S.2.2.1]; exact Nat.le_refl 0) (by show x_so h + 0 ≤ 0; rw [S.2.2.2]; exact Nat.le_refl 0) ?_
                    refine xC.up (tv100 (h := x_setc h 0 0) (F := F9) (x1 := x1) (x2 := v129) S.set (by omega) (by unfold VC; omega) (by omega) (fun o131 F132 hp => ?_)) (by omega)
                    obtain ⟨q135, rfl⟩ := hp
                    obtain ⟨w136, j136, K136, i136, e136, hw136, hK136, hR136⟩ := q135
                    have fr136 : ∀ K i, K ≠ 36 → K ≠ 37 → K ≠ 38 → K ≠ 41 → K ≠ 63 → K ≠ 64 → F132 K i = F9 K i := fun K i a b c d f g => by rw [e136, u2_ne (gv_ne hK136 a b c d), u2_ne f, u2_ne g]
                    have M136 : MX x1.toNatClampNeg F132 := by rw [e136]; exact MX.seize klp6_0 (by unfold VC; omega) (by omega) hK136 (by omega)
                    have t136 : (F132 63 x1.toNatClampNeg).toInt = (F9 63 x1.toNatClampNeg).toInt + 1 := by rw [e136, u2_ne (gv_ne hK136 (by decide) (by decide) (by decide) (by decide)), u2_eq]; exact hw136
                    have kk137 : F132 24 x1.toNatClampNeg = (F9 24 x1.toNatClampNeg) := (fr136 24 x1.toNatClampNeg (by decide) (by decide) (by decide) (by decide) (by decide) (by decide)).trans rfl
                    have ki138 : (F132 24 x1.toNatClampNeg).toInt = (F9 24 x1.toNatClampNeg).toInt := by rw [kk137]
                    have kk139 : F132 47 x1.toNatClampNeg = (F9 47 x1.toNatClampNeg) := (fr136 47 x1.toNatClampNeg (by decide) (by decide) (by decide) (by decide) (by decide) (by decide)).trans rfl
                    have ki140 : (F132 47 x1.toNatClampNeg).toInt = (F9 47 x1.toNatClampNeg).toInt := by rw [kk139]
                    have kk141 : F132 48 x1.toNatClampNeg = (F9 48 x1.toNatClampNeg) := (fr136 48 x1.toNatClampNeg (by decide) (by decide) (by decide) (by decide) (by decide) (by decide)).trans rfl
                    have ki142 : (F132 48 x1.toNatClampNeg).toInt = (F9 48 x1.toNatClampNeg).toInt := by rw [kk141]
                    have kk143 : F132 55 x1.toNatClampNeg = (F9 55 x1.toNatClampNeg) := (fr136 55 x1.toNatClampNeg (by decide) (by decide) (by decide) (by decide) (by decide) (by decide)).trans rfl
                    have ki144 : (F132 55 x1.toNatClampNeg).toInt = (F9 55 x1.toNatClampNeg).toInt := by rw [kk143]
                    have ki145 : mpop (F132 55 x1.toNatClampNeg).toInt = mpop (F9 55 x1.toNatClampNeg).toInt := by rw [kk143]
                    have kk146 : F132 57 x1.toNatClampNeg = (F9 57 x1.toNatClampNeg) := (fr136 57 x1.toNatClampNeg (by decide) (by decide) (by decide) (by decide) (by decide) (by decide)).trans rfl
                    have ki147 : (F132 57 x1.toNatClampNeg).toInt = (F9 57 x1.toNatClampNeg).toInt := by rw [kk146]
                    show x_seq _ _ _ _ ([.inr (.inr (8, 1)), .inl x1, .inl x2, .inl x3, .inl sjn1_0, .inl ylp6_5, .inl (F9 35 v23.toNatClampNeg), .inl v39, .inl v45], [], mh h F132)
                    refine q_aload rfl (by decide) ?_
                    refine m_gfr S (n := 3) (by decide) ?_
                    refine q_iload rfl ?_
                    refine q_aload rfl (by decide) ?_
                    refine m_gfi S ?_
                    have e148 : 0 ≤ (F132 8 47).toInt ∧ (F132 8 47).toInt ≤ 3 := M136.fl (lo := 0) (hi := 3) (by decide)
                    refine v_iconst (k := 1) rfl (fun v149 e150 => ?_)
                    refine v_iadd (by omega) (fun v151 e152 => ?_)
                    refine v_iconst (k := 4) rfl (fun v153 e154 => ?_)
                    refine v_irem e154 (by decide) (by omega) (fun v155 e156 => ?_)
                    refine m_ast (k := 25) (n := 3) S (by decide) (by omega) (by omega) ?_
                    show x_seq _ _ _ _ ([.inr (.inr (8, 1)), .inl x1, .inl x2, .inl x3, .inl sjn1_0, .inl ylp6_5, .inl (F9 35 v23.toNatClampNeg), .inl v39, .inl v45], [], mh h (x_u2 F132 43 x2.toNatClampNeg v155))
                    refine q_goto ?_
                    refine xR.blk c123_170 ?_
                    refine q_aload rfl (by decide) ?_
                    refine q_iload rfl ?_
                    refine v_iconst (k := 5000) rfl (fun v157 e158 => ?_)
                    refine q_iload rfl ?_
                    refine v_iadd (by omega) (fun v159 e160 => ?_)
                    refine q_callv (j := 1) rfl (by decide) ⟨Nat.le_refl 1, Nat.le_of_eq S.1.symm⟩ (Nat.le_of_ble_eq_true rfl) (Nat.le_of_ble_eq_true rfl) (by show x_ce h + 0 ≤ 0; rw [S.2.2.1]; exact Nat.le_refl 0) (by show x_so h + 0 ≤ 0; rw [S.2.2.2]; exact Nat.le_refl 0) ?_
                    refine xC.up (tv100 (h := x_setc h 0 0) (F := (x_u2 F132 43 x2.toNatClampNeg v155)) (x1 := x1) (x2 := v159) S.set (by omega) (by unfold VC; omega) (by rw [show (x_u2 F132 43 x2.toNatClampNeg v155) 63 x1.toNatClampNeg = (F132 63 x1.toNatClampNeg) from (by rw [u2_ne (by decide)])]; omega) (fun o161 F162 hp => ?_)) (by omega)
                    obtain ⟨q165, rfl⟩ := hp
                    obtain ⟨w166, j166, K166, i166, e166, hw166, hK166, hR166⟩ := q165
                    rw [show (x_u2 F132 43 x2.toNatClampNeg v155) 63 x1.toNatClampNeg = (F132 63 x1.toNatClampNeg) from (by rw [u2_ne (by decide)])] at hw166
                    have fr166 : ∀ K i, K ≠ 36 → K ≠ 37 → K ≠ 38 → K ≠ 41 → K ≠ 63 → K ≠ 64 → F162 K i = (x_u2 F132 43 x2.toNatClampNeg v155) K i := fun K i a b c d f g => by rw [e166, u2_ne (gv_ne hK166 a b c d), u2_ne f, u2_ne g]
                    have M166 : MX x1.toNatClampNeg F162 := by rw [e166]; exact MX.seize (MX.put (K := 43) (i := x2.toNatClampNeg) (v := v155) M136 (fun lo hi hm => by simp only [mrl, List.mem_cons, Prod.mk.injEq, List.not_mem_nil, or_false] at hm; omega) (by decide) (fun z => absurd z (by decide)) (Or.inl rfl)) (by unfold VC; omega) (by omega) hK166 (by omega)
                    have t166 : (F162 63 x1.toNatClampNeg).toInt = (F132 63 x1.toNatClampNeg).toInt + 1 := by rw [e166, u2_ne (gv_ne hK166 (by decide) (by decide) (by decide) (by decide)), u2_eq]; exact hw166
                    have kk167 : F162 24 x1.toNatClampNeg = (F132 24 x1.toNatClampNeg) := (fr166 24 x1.toNatClampNeg (by decide) (by decide) (by decide) (by decide) (by decide) (by decide)).trans (by rw [u2_ne (by decide)])
                    have ki168 : (F162 24 x1.toNatClampNeg).toInt = (F132 24 x1.toNatClampNeg).toInt := by rw [kk167]
                    have kk169 : F162 47 x1.toNatClampNeg = (F132 47 x1.toNatClampNeg) := (fr166 47 x1.toNatClampNeg (by decide) (by decide) (by decide) (by decide) (by decide) (by decide)).trans (by rw [u2_ne (by decide)])
                    have ki170 : (F162 47 x1.toNatClampNeg).toInt = (F132 47 x1.toNatClampNeg).toInt := by rw [kk169]
                    have kk171 : F162 48 x1.toNatClampNeg = (F132 48 x1.toNatClampNeg) := (fr166 48 x1.toNatClampNeg (by decide) (by decide) (by decide) (by decide) (by decide) (by decide)).trans (by rw [u2_ne (by decide)])
                    have ki172 : (F162 48 x1.toNatClampNeg).toInt = (F132 48 x1.toNatClampNeg).toInt := by rw [kk171]
                    have kk173 : F162 55 x1.toNatClampNeg = (F132 55 x1.toNatClampNeg) := (fr166 55 x1.toNatClampNeg (by decide) (by decide) (by decide) (by decide) (by decide) (by decide)).trans (by rw [u2_ne (by decide)])
                    have ki174 : (F162 55 x1.toNatClampNeg).toInt = (F132 55 x1.toNatClampNeg).toInt := by rw [kk173]
                    have ki175 : mpop (F162 55 x1.toNatClampNeg).toInt = mpop (F132 55 x1.toNatClampNeg).toInt := by rw [kk173]
                    have kk176 : F162 57 x1.toNatClampNeg = (F132 57 x1.toNatClampNeg) := (fr166 57 x1.toNatClampNeg (by decide) (by decide) (by decide) (by decide) (by decide) (by decide)).trans (by rw [u2_ne (by decide)])
                    have ki177 : (F162 57 x1.toNatClampNeg).toInt = (F132 57 x1.toNatClampNeg).toInt := by rw [kk176]
                    show x_seq _ _ _ _ ([.inr (.inr (8, 1)), .inl x1, .inl x2, .inl x3, .inl sjn1_0, .inl ylp6_5, .inl (F9 35 v23.toNatClampNeg), .inl v39, .inl v45], [], mh h F162)
                    refine q_aload rfl (by decide) ?_
                    refine q_iload rfl ?_
                    refine v_iconst (k := 1000) rfl (fun v178 e179 => ?_)
                    refine q_iload rfl ?_
                    refine v_imul' e179 (by omega) (fun v180 e181 => ?_)
                    refine v_iconst (k := 30) rfl (fun v182 e183 => ?_)
                    refine v_iadd (by omega) (fun v184 e185 => ?_)
                    refine q_iload rfl ?_
                    refine v_iadd (by omega) (fun v186 e187 => ?_)
                    refine q_callv (j := 1) rfl (by decide) ⟨Nat.le_refl 1, Nat.le_of_eq S.1.symm⟩ (Nat.le_of_ble_eq_true rfl) (Nat.le_of_ble_eq_true rfl) (by show x_ce h + 0 ≤ 0; rw [S.2.2.1]; exact Nat.le_refl 0) (by show x_so h + 0 ≤ 0; rw [S.2.2.2]; exact Nat.le_refl 0) ?_
                    refine xC.up (tv100 (h := x_setc h 0 0) (F := F162) (x1 := x1) (x2 := v186) S.set (by omega) (by unfold VC; omega) (by omega) (fun o188 F189 hp => ?_)) (by omega)
                    obtain ⟨q192, rfl⟩ := hp
                    obtain ⟨w193, j193, K193, i193, e193, hw193, hK193, hR193⟩ := q192
                    have fr193 : ∀ K i, K ≠ 36 → K ≠ 37 → K ≠ 38 → K ≠ 41 → K ≠ 63 → K ≠ 64 → F189 K i = F162 K i := fun K i a b c d f g => by rw [e193, u2_ne (gv_ne hK193 a b c d), u2_ne f, u2_ne g]
                    have M193 : MX x1.toNatClampNeg F189 := by rw [e193]; exact MX.seize M166 (by unfold VC; omega) (by omega) hK193 (by omega)
                    have t193 : (F189 63 x1.toNatClampNeg).toInt = (F162 63 x1.toNatClampNeg).toInt + 1 := by rw [e193, u2_ne (gv_ne hK193 (by decide) (by decide) (by decide) (by decide)), u2_eq]; exact hw193
                    have kk194 : F189 24 x1.toNatClampNeg = (F162 24 x1.toNatClampNeg) := (fr193 24 x1.toNatClampNeg (by decide) (by decide) (by decide) (by decide) (by decide) (by decide)).trans rfl
                    have ki195 : (F189 24 x1.toNatClampNeg).toInt = (F162 24 x1.toNatClampNeg).toInt := by rw [kk194]
                    have kk196 : F189 47 x1.toNatClampNeg = (F162 47 x1.toNatClampNeg) := (fr193 47 x1.toNatClampNeg (by decide) (by decide) (by decide) (by decide) (by decide) (by decide)).trans rfl
                    have ki197 : (F189 47 x1.toNatClampNeg).toInt = (F162 47 x1.toNatClampNeg).toInt := by rw [kk196]
                    have kk198 : F189 48 x1.toNatClampNeg = (F162 48 x1.toNatClampNeg) := (fr193 48 x1.toNatClampNeg (by decide) (by decide) (by decide) (by decide) (by decide) (by decide)).trans rfl
                    have ki199 : (F189 48 x1.toNatClampNeg).toInt = (F162 48 x1.toNatClampNeg).toInt := by rw [kk198]
                    have kk200 : F189 55 x1.toNatClampNeg = (F162 55 x1.toNatClampNeg) := (fr193 55 x1.toNatClampNeg (by decide) (by decide) (by decide) (by decide) (by decide) (by decide)).trans rfl
                    have ki201 : (F189 55 x1.toNatClampNeg).toInt = (F162 55 x1.toNatClampNeg).toInt := by rw [kk200]
                    have ki202 : mpop (F189 55 x1.toNatClampNeg).toInt = mpop (F162 55 x1.toNatClampNeg).toInt := by rw [kk200]
                    have kk203 : F189 57 x1.toNatClampNeg = (F162 57 x1.toNatClampNeg) := (fr193 57 x1.toNatClampNeg (by decide) (by decide) (by decide) (by decide) (by decide) (by decide)).trans rfl
                    have ki204 : (F189 57 x1.toNatClampNeg).toInt = (F162 57 x1.toNatClampNeg).toInt := by rw [kk203]
                    show x_seq _ _ _ _ ([.inr (.inr (8, 1)), .inl x1, .inl x2, .inl x3, .inl sjn1_0, .inl ylp6_5, .inl (F9 35 v23.toNatClampNeg), .inl v39, .inl v45], [], mh h F189)
                    refine q_aload rfl (by decide) ?_
                    refine m_gfr S (n := 72) (by decide) ?_
                    refine q_iload rfl ?_
                    refine q_aload rfl (by decide) ?_
                    refine m_gfr S (n := 72) (by decide) ?_
                    refine q_iload rfl ?_
                    refine m_ald (k := 37) (n := 72) S (by decide) (by omega) (by omega) ?_
                    have e205 : 0 ≤ (F189 55 x1.toNatClampNeg).toInt ∧ (F189 55 x1.toNatClampNeg).toInt ≤ 7 := M193.rg (lo := 0) (hi := 7) (by decide) _
                    refine v_iconst (k := 1) rfl (fun v206 e207 => ?_)
                    refine q_iload rfl ?_
                    refine q_bin ?_
                    show x_seq _ _ _ _ ([.inr (.inr (8, 1)), .inl x1, .inl x2, .inl x3, .inl sjn1_0, .inl ylp6_5, .inl (F9 35 v23.toNatClampNeg), .inl v39, .inl v45], [.inl (v206 <<< ((F9 35 v23.toNatClampNeg) &&& 31)), .inl (F189 55 x1.toNatClampNeg), .inl x1, .inr (.inr (55, 1))], mh h F189)
                    refine q_bin ?_
                    show x_seq _ _ _ _ ([.inr (.inr (8, 1)), .inl x1, .inl x2, .inl x3, .inl sjn1_0, .inl ylp6_5, .inl (F9 35 v23.toNatClampNeg), .inl v39, .inl v45], [.inl ((F189 55 x1.toNatClampNeg) ||| (v206 <<< ((F9 35 v23.toNatClampNeg) &&& 31))), .inl x1, .inr (.inr (55, 1))], mh h F189)
                    have hor2 : (0 ≤ ((F189 55 x1.toNatClampNeg) ||| (v206 <<< ((F9 35 v23.toNatClampNeg) &&& 31))).toInt ∧ ((F189 55 x1.toNatClampNeg) ||| (v206 <<< ((F9 35 v23.toNatClampNeg) &&& 31))).toInt ≤ 7) ∧ mpop ((F189 55 x1.toNatClampNeg) ||| (v206 <<< ((F9 35 v23.toNatClampNeg) &&& 31))).toInt = mpop (F9 55 x1.toNatClampNeg).toInt + 1 := by rw [kk200, kk173, kk143]; exact m_or' (u := v29) (by omega) (by omega) (by omega) (by omega) hvis
                    refine m_ast (k := 37) (n := 72) S (by decide) (by omega) (by omega) ?_
                    show x_seq _ _ _ _ ([.inr (.inr (8, 1)), .inl x1, .inl x2, .inl x3, .inl sjn1_0, .inl ylp6_5, .inl (F9 35 v23.toNatClampNeg), .inl v39, .inl v45], [], mh h (x_u2 F189 55 x1.toNatClampNeg ((F189 55 x1.toNatClampNeg) ||| (v206 <<< ((F9 35 v23.toNatClampNeg) &&& 31)))))
                    refine q_aload rfl (by decide) ?_
                    refine m_gfr S (n := 72) (by decide) ?_
                    refine q_iload rfl ?_
                    refine v_iconst (k := 3) rfl (fun v212 e213 => ?_)
                    refine m_ast (k := 29) (n := 72) S (by decide) (by omega) (by omega) ?_
                    show x_seq _ _ _ _ ([.inr (.inr (8, 1)), .inl x1, .inl x2, .inl x3, .inl sjn1_0, .inl ylp6_5, .inl (F9 35 v23.toNatClampNeg), .inl v39, .inl v45], [], mh h (x_u2 (x_u2 F189 55 x1.toNatClampNeg ((F189 55 x1.toNatClampNeg) ||| (v206 <<< ((F9 35 v23.toNatClampNeg) &&& 31)))) 47 x1.toNatClampNeg v212))
                    refine q_aload rfl (by decide) ?_
                    refine m_gfr S (n := 72) (by decide) ?_
                    refine q_iload rfl ?_
                    refine q_aload rfl (by decide) ?_
                    refine m_gfr S (n := 72) (by decide) ?_
                    refine q_iload rfl ?_
                    refine m_ald (k := 30) (n := 72) S (by decide) (by omega) (by omega) ?_
                    have e214 : 0 ≤ (F189 48 x1.toNatClampNeg).toInt ∧ (F189 48 x1.toNatClampNeg).toInt ≤ 5 := M193.rg (lo := 0) (hi := 5) (by decide) _
                    show x_seq _ _ _ _ ([.inr (.inr (8, 1)), .inl x1, .inl x2, .inl x3, .inl sjn1_0, .inl ylp6_5, .inl (F9 35 v23.toNatClampNeg), .inl v39, .inl v45], [.inl (F189 48 x1.toNatClampNeg), .inl x1, .inr (.inr (52, 1))], mh h (x_u2 (x_u2 F189 55 x1.toNatClampNeg ((F189 55 x1.toNatClampNeg) ||| (v206 <<< ((F9 35 v23.toNatClampNeg) &&& 31)))) 47 x1.toNatClampNeg v212))
                    refine m_ast (k := 34) (n := 72) S (by decide) (by omega) (by omega) ?_
                    show x_seq _ _ _ _ ([.inr (.inr (8, 1)), .inl x1, .inl x2, .inl x3, .inl sjn1_0, .inl ylp6_5, .inl (F9 35 v23.toNatClampNeg), .inl v39, .inl v45], [], mh h (x_u2 (x_u2 (x_u2 F189 55 x1.toNatClampNeg ((F189 55 x1.toNatClampNeg) ||| (v206 <<< ((F9 35 v23.toNatClampNeg) &&& 31)))) 47 x1.toNatClampNeg v212) 52 x1.toNatClampNeg (F189 48 x1.toNatClampNeg)))
                    refine q_aload rfl (by decide) ?_
                    refine m_gfr S (n := 72) (by decide) ?_
                    refine q_iload rfl ?_
                    refine q_iload rfl ?_
                    refine m_ast (k := 35) (n := 72) S (by decide) (by omega) (by omega) ?_
                    show x_seq _ _ _ _ ([.inr (.inr (8, 1)), .inl x1, .inl x2, .inl x3, .inl sjn1_0, .inl ylp6_5, .inl (F9 35 v23.toNatClampNeg), .inl v39, .inl v45], [], mh h (x_u2 (x_u2 (x_u2 (x_u2 F189 55 x1.toNatClampNeg ((F189 55 x1.toNatClampNeg) ||| (v206 <<< ((F9 35 v23.toNatClampNeg) &&& 31)))) 47 x1.toNatClampNeg v212) 52 x1.toNatClampNeg (F189 48 x1.toNatClampNeg)) 53 x1.toNatClampNeg (F9 35 v23.toNatClampNeg)))
                    refine q_aload rfl (by decide) ?_
                    refine m_gfr S (n := 72) (by decide) ?_
                    refine q_iload rfl ?_
                    refine q_iload rfl ?_
                    refine m_ast (k := 36) (n := 72) S (by decide) (by omega) (by omega) ?_
                    show x_seq _ _ _ _ ([.inr (.inr (8, 1)), .inl x1, .inl x2, .inl x3, .inl sjn1_0, .inl ylp6_5, .inl (F9 35 v23.toNatClampNeg), .inl v39, .inl v45], [], mh h (x_u2 (x_u2 (x_u2 (x_u2 (x_u2 F189 55 x1.toNatClampNeg ((F189 55 x1.toNatClampNeg) ||| (v206 <<< ((F9 35 v23.toNatClampNeg) &&& 31)))) 47 x1.toNatClampNeg v212) 52 x1.toNatClampNeg (F189 48 x1.toNatClampNeg)) 53 x1.toNatClampNeg (F9 35 v23.toNatClampNeg)) 54 x1.toNatClampNeg v45))
                    exact q_ret (hZ _ _ ⟨⟨(MX.close (MX.put (K := 54) (i := x1.toNatClampNeg) (v := v45) (MX.put (K := 53) (i := x1.toNatClampNeg) (v := (F9 35 v23.toNatClampNeg)) (MX.put (K := 52) (i := x1.toNatClampNeg) (v := (F189 48 x1.toNatClampNeg)) (MX.put (K := 47) (i := x1.toNatClampNeg) (v := v212) (MX.put (K := 55) (i := x1.toNatClampNeg) (v := ((F189 55 x1.toNatClampNeg) ||| (v206 <<< ((F9 35 v23.toNatClampNeg) &&& 31)))) M193 (fun lo hi hm => by simp only [mrl, List.mem_cons, Prod.mk.injEq, List.not_mem_nil, or_false] at hm; omega) (by decide) (fun z => absurd z (by decide)) (Or.inr rfl)) (fun lo hi hm => by simp only [mrl, List.mem_cons, Prod.mk.injEq, List.not_mem_nil, or_false] at hm; omega) (by decide) (fun z => absurd z (by decide)) (Or.inr rfl)) (fun lo hi hm => by simp only [mrl, List.mem_cons, Prod.mk.injEq, List.not_mem_nil, or_false] at hm; omega) (by decide) (fun z => absurd z (by decide)) (Or.inl rfl)) (fun lo hi hm => by simp only [mrl, List.mem_cons, Prod.mk.injEq, List.not_mem_nil, or_false] at hm; omega) (by decide) (fun z => absurd z (by decide)) (Or.inl rfl)) (fun lo hi hm => by simp only [mrl, List.mem_cons, Prod.mk.injEq, List.not_mem_nil, or_false] at hm; omega) (by decide) (fun z => absurd z (by decide)) (Or.inl rfl)) (by unfold SL; rw [show (x_u2 (x_u2 (x_u2 (x_u2 (x_u2 F189 55 x1.toNatClampNeg ((F189 55 x1.toNatClampNeg) ||| (v206 <<< ((F9 35 v23.toNatClampNeg) &&& 31)))) 47 x1.toNatClampNeg v212) 52 x1.toNatClampNeg (F189 48 x1.toNatClampNeg)) 53 x1.toNatClampNeg (F9 35 v23.toNatClampNeg)) 54 x1.toNatClampNeg v45) 47 x1.toNatClampNeg = v212 from (by rw [u2_ne (by decide), u2_ne (by decide), u2_ne (by decide), u2_eq]), show (x_u2 (x_u2 (x_u2 (x_u2 (x_u2 F189 55 x1.toNatClampNeg ((F189 55 x1.toNatClampNeg) ||| (v206 <<< ((F9 35 v23.toNatClampNeg) &&& 31)))) 47 x1.toNatClampNeg v212) 52 x1.toNatClampNeg (F189 48 x1.toNatClampNeg)) 53 x1.toNatClampNeg (F9 35 v23.toNatClampNeg)) 54 x1.toNatClampNeg v45) 48 x1.toNatClampNeg = (F189 48 x1.toNatClampNeg) from (by rw [u2_ne (by decide), u2_ne (by decide), u2_ne (by decide), u2_ne (by decide), u2_ne (by decide)]), show (x_u2 (x_u2 (x_u2 (x_u2 (x_u2 F189 55 x1.toNatClampNeg ((F189 55 x1.toNatClampNeg) ||| (v206 <<< ((F9 35 v23.toNatClampNeg) &&& 31)))) 47 x1.toNatClampNeg v212) 52 x1.toNatClampNeg (F189 48 x1.toNatClampNeg)) 53 x1.toNatClampNeg (F9 35 v23.toNatClampNeg)) 54 x1.toNatClampNeg v45) 63 x1.toNatClampNeg = (F189 63 x1.toNatClampNeg) from (by rw [u2_ne (by decide), u2_ne (by decide), u2_ne (by decide), u2_ne (by decide), u2_ne (by decide)]), show (x_u2 (x_u2 (x_u2 (x_u2 (x_u2 F189 55 x1.toNatClampNeg ((F189 55 x1.toNatClampNeg) ||| (v206 <<< ((F9 35 v23.toNatClampNeg) &&& 31)))) 47 x1.toNatClampNeg v212) 52 x1.toNatClampNeg (F189 48 x1.toNatClampNeg)) 53 x1.toNatClampNeg (F9 35 v23.toNatClampNeg)) 54 x1.toNatClampNeg v45) 55 x1.toNatClampNeg = ((F189 55 x1.toNatClampNeg) ||| (v206 <<< ((F9 35 v23.toNatClampNeg) &&& 31))) from (by rw [u2_ne (by decide), u2_ne (by decide), u2_ne (by decide), u2_ne (by decide), u2_eq]), show (x_u2 (x_u2 (x_u2 (x_u2 (x_u2 F189 55 x1.toNatClampNeg ((F189 55 x1.toNatClampNeg) ||| (v206 <<< ((F9 35 v23.toNatClampNeg) &&& 31)))) 47 x1.toNatClampNeg v212) 52 x1.toNatClampNeg (F189 48 x1.toNatClampNeg)) 53 x1.toNatClampNeg (F9 35 v23.toNatClampNeg)) 54 x1.toNatClampNeg v45) 57 x1.toNatClampNeg = (F189 57 x1.toNatClampNeg) from (by rw [u2_ne (by decide), u2_ne (by decide), u2_ne (by decide), u2_ne (by decide), u2_ne (by decide)]), show (x_u2 (x_u2 (x_u2 (x_u2 (x_u2 F189 55 x1.toNatClampNeg ((F189 55 x1.toNatClampNeg) ||| (v206 <<< ((F9 35 v23.toNatClampNeg) &&& 31)))) 47 x1.toNatClampNeg v212) 52 x1.toNatClampNeg (F189 48 x1.toNatClampNeg)) 53 x1.toNatClampNeg (F9 35 v23.toNatClampNeg)) 54 x1.toNatClampNeg v45) 24 x1.toNatClampNeg = (F189 24 x1.toNatClampNeg) from (by rw [u2_ne (by decide), u2_ne (by decide), u2_ne (by decide), u2_ne (by decide), u2_ne (by decide)])]; exact ⟨fun z => by omega, fun z => by omega, fun z => by omega, fun z => by omega⟩)), (FR.put (K := 54) (i := x1.toNatClampNeg) (v := v45) (FR.put (K := 53) (i := x1.toNatClampNeg) (v := (F9 35 v23.toNatClampNeg)) (FR.put (K := 52) (i := x1.toNatClampNeg) (v := (F189 48 x1.toNatClampNeg)) (FR.put (K := 47) (i := x1.toNatClampNeg) (v := v212) (FR.put (K := 55) (i := x1.toNatClampNeg) (v := ((F189 55 x1.toNatClampNeg) ||| (v206 <<< ((F9 35 v23.toNatClampNeg) &&& 31)))) (FR.trans (FR.trans (FR.put (K := 43) (i := x2.toNatClampNeg) (v := v155) (FR.trans klp6_1 (FR.rel fr136)) rfl) (FR.rel fr166)) (FR.rel fr193)) rfl) rfl) rfl) rfl) rfl)⟩, rfl⟩)
                · skip
                  refine q_aload rfl (by decide) ?_
                  refine q_iload rfl ?_
                  refine q_iload rfl ?_
                  refine v_iconst (k := 24) rfl (fun v215 e216 => ?_)
                  refine v_irem e216 (by decide) (by omega) (fun v217 e218 => ?_)
                  refine v_iconst (k := -1) rfl (fun v219 e220 => ?_)
                  refine q_callv (j := 1) rfl (by decide) ⟨Nat.le_refl 1, Nat.le_of_eq S.1.symm⟩ (Nat.le_of_ble_eq_true rfl) (Nat.le_of_ble_eq_true rfl) (by show x_ce h + 0 ≤ 0; rw [S.2.2.1]; exact Nat.le_refl 0) (by show x_so h + 0 ≤ 0; rw [S.2.2.2]; exact Nat.le_refl 0) ?_
                  refine xC.up (tv119 (h := x_setc h 0 0) (F := F9) (x1 := x2) (x2 := v217) (x3 := v219) (e := x1.toNatClampNeg) S.set (by omega) (by omega) (by omega) klp6_0 (fun o221 F222 hp => ?_)) (by omega)
                  obtain ⟨q225, ⟨v224, rfl, q223⟩⟩ := hp
                  have kk226 : F222 63 x1.toNatClampNeg = (F9 63 x1.toNatClampNeg) := (q225.2.1 63 x1.toNatClampNeg (by decide)).trans rfl
                  have ki227 : (F222 63 x1.toNatClampNeg).toInt = (F9 63 x1.toNatClampNeg).toInt := by rw [kk226]
                  have kk228 : F222 55 x1.toNatClampNeg = (F9 55 x1.toNatClampNeg) := (q225.2.1 55 x1.toNatClampNeg (by decide)).trans rfl
                  have ki229 : (F222 55 x1.toNatClampNeg).toInt = (F9 55 x1.toNatClampNeg).toInt := by rw [kk228]
                  have ki230 : mpop (F222 55 x1.toNatClampNeg).toInt = mpop (F9 55 x1.toNatClampNeg).toInt := by rw [kk228]
                  have kk231 : F222 24 x1.toNatClampNeg = (F9 24 x1.toNatClampNeg) := (q225.2.1 24 x1.toNatClampNeg (by decide)).trans rfl
                  have ki232 : (F222 24 x1.toNatClampNeg).toInt = (F9 24 x1.toNatClampNeg).toInt := by rw [kk231]
                  show x_seq _ _ _ _ ([.inr (.inr (8, 1)), .inl x1, .inl x2, .inl x3, .inl sjn1_0, .inl ylp6_5, .inl (F9 35 v23.toNatClampNeg), .inl v39, .inl v45], [.inl v224], mh h F222)
                  refine v_if_ne (fun d233 => ?_) (fun d233 => ?_)
                  · skip
                    refine xR.blk c123_126 ?_
                    refine q_iload rfl ?_
                    refine v_if_eq (fun d234 => ?_) (fun d234 => ?_)
                    · skip
                      refine xR.blk c123_170 ?_
                      refine q_aload rfl (by decide) ?_
                      refine q_iload rfl ?_
                      refine v_iconst (k := 5000) rfl (fun v235 e236 => ?_)
                      refine q_iload rfl ?_
                      refine v_iadd (by omega) (fun v237 e238 => ?_)
                      refine q_callv (j := 1) rfl (by decide) ⟨Nat.le_refl 1, Nat.le_of_eq S.1.symm⟩ (Nat.le_of_ble_eq_true rfl) (Nat.le_of_ble_eq_true rfl) (by show x_ce h + 0 ≤ 0; rw [S.2.2.1]; exact Nat.le_refl 0) (by show x_so h + 0 ≤ 0; rw [S.2.2.2]; exact Nat.le_refl 0) ?_
                      refine xC.up (tv100 (h := x_setc h 0 0) (F := F222) (x1 := x1) (x2 := v237) S.set (by omega) (by unfold VC; omega) (by omega) (fun o239 F240 hp => ?_)) (by omega)
                      obtain ⟨q243, rfl⟩ := hp
                      obtain ⟨w244, j244, K244, i244, e244, hw244, hK244, hR244⟩ := q243
                      have fr244 : ∀ K i, K ≠ 36 → K ≠ 37 → K ≠ 38 → K ≠ 41 → K ≠ 63 → K ≠ 64 → F240 K i = F222 K i := fun K i a b c d f g => by rw [e244, u2_ne (gv_ne hK244 a b c d), u2_ne f, u2_ne g]
                      have M244 : MX x1.toNatClampNeg F240 := by rw [e244]; exact MX.seize q225.1 (by unfold VC; omega) (by omega) hK244 (by omega)
                      have t244 : (F240 63 x1.toNatClampNeg).toInt = (F222 63 x1.toNatClampNeg).toInt + 1 := by rw [e244, u2_ne (gv_ne hK244 (by decide) (by decide) (by decide) (by decide)), u2_eq]; exact hw244
                      have kk245 : F240 24 x1.toNatClampNeg = (F222 24 x1.toNatClampNeg) := (fr244 24 x1.toNatClampNeg (by decide) (by decide) (by decide) (by decide) (by decide) (by decide)).trans rfl
                      have ki246 : (F240 24 x1.toNatClampNeg).toInt = (F222 24 x1.toNatClampNeg).toInt := by rw [kk245]
                      have kk247 : F240 47 x1.toNatClampNeg = (F222 47 x1.toNatClampNeg) := (fr244 47 x1.toNatClampNeg (by decide) (by decide) (by decide) (by decide) (by decide) (by decide)).trans rfl
                      have ki248 : (F240 47 x1.toNatClampNeg).toInt = (F222 47 x1.toNatClampNeg).toInt := by rw [kk247]
                      have kk249 : F240 48 x1.toNatClampNeg = (F222 48 x1.toNatClampNeg) := (fr244 48 x1.toNatClampNeg (by decide) (by decide) (by decide) (by decide) (by decide) (by decide)).trans rfl
                      have ki250 : (F240 48 x1.toNatClampNeg).toInt = (F222 48 x1.toNatClampNeg).toInt := by rw [kk249]
                      have kk251 : F240 55 x1.toNatClampNeg = (F222 55 x1.toNatClampNeg) := (fr244 55 x1.toNatClampNeg (by decide) (by decide) (by decide) (by decide) (by decide) (by decide)).trans rfl
                      have ki252 : (F240 55 x1.toNatClampNeg).toInt = (F222 55 x1.toNatClampNeg).toInt := by rw [kk251]
                      have ki253 : mpop (F240 55 x1.toNatClampNeg).toInt = mpop (F222 55 x1.toNatClampNeg).toInt := by rw [kk251]
                      have kk254 : F240 57 x1.toNatClampNeg = (F222 57 x1.toNatClampNeg) := (fr244 57 x1.toNatClampNeg (by decide) (by decide) (by decide) (by decide) (by decide) (by decide)).trans rfl
                      have ki255 : (F240 57 x1.toNatClampNeg).toInt = (F222 57 x1.toNatClampNeg).toInt := by rw [kk254]
                      show x_seq _ _ _ _ ([.inr (.inr (8, 1)), .inl x1, .inl x2, .inl x3, .inl sjn1_0, .inl ylp6_5, .inl (F9 35 v23.toNatClampNeg), .inl v39, .inl v45], [], mh h F240)
                      refine q_aload rfl (by decide) ?_
                      refine q_iload rfl ?_
                      refine v_iconst (k := 1000) rfl (fun v256 e257 => ?_)
                      refine q_iload rfl ?_
                      refine v_imul' e257 (by omega) (fun v258 e259 => ?_)
                      refine v_iconst (k := 30) rfl (fun v260 e261 => ?_)
                      refine v_iadd (by omega) (fun v262 e263 => ?_)
                      refine q_iload rfl ?_
                      refine v_iadd (by omega) (fun v264 e265 => ?_)
                      refine q_callv (j := 1) rfl (by decide) ⟨Nat.le_refl 1, Nat.le_of_eq S.1.symm⟩ (Nat.le_of_ble_eq_true rfl) (Nat.le_of_ble_eq_true rfl) (by show x_ce h + 0 ≤ 0; rw [S.2.2.1]; exact Nat.le_refl 0) (by show x_so h + 0 ≤ 0; rw [S.2.2.2]; exact Nat.le_refl 0) ?_
                      refine xC.up (tv100 (h := x_setc h 0 0) (F := F240) (x1 := x1) (x2 := v264) S.set (by omega) (by unfold VC; omega) (by omega) (fun o266 F267 hp => ?_)) (by omega)
                      obtain ⟨q270, rfl⟩ := hp
                      obtain ⟨w271, j271, K271, i271, e271, hw271, hK271, hR271⟩ := q270
                      have fr271 : ∀ K i, K ≠ 36 → K ≠ 37 → K ≠ 38 → K ≠ 41 → K ≠ 63 → K ≠ 64 → F267 K i = F240 K i := fun K i a b c d f g => by rw [e271, u2_ne (gv_ne hK271 a b c d), u2_ne f, u2_ne g]
                      have M271 : MX x1.toNatClampNeg F267 := by rw [e271]; exact MX.seize M244 (by unfold VC; omega) (by omega) hK271 (by omega)
                      have t271 : (F267 63 x1.toNatClampNeg).toInt = (F240 63 x1.toNatClampNeg).toInt + 1 := by rw [e271, u2_ne (gv_ne hK271 (by decide) (by decide) (by decide) (by decide)), u2_eq]; exact hw271
                      have kk272 : F267 24 x1.toNatClampNeg = (F240 24 x1.toNatClampNeg) := (fr271 24 x1.toNatClampNeg (by decide) (by decide) (by decide) (by decide) (by decide) (by decide)).trans rfl
                      have ki273 : (F267 24 x1.toNatClampNeg).toInt = (F240 24 x1.toNatClampNeg).toInt := by rw [kk272]
                      have kk274 : F267 47 x1.toNatClampNeg = (F240 47 x1.toNatClampNeg) := (fr271 47 x1.toNatClampNeg (by decide) (by decide) (by decide) (by decide) (by decide) (by decide)).trans rfl
                      have ki275 : (F267 47 x1.toNatClampNeg).toInt = (F240 47 x1.toNatClampNeg).toInt := by rw [kk274]
                      have kk276 : F267 48 x1.toNatClampNeg = (F240 48 x1.toNatClampNeg) := (fr271 48 x1.toNatClampNeg (by decide) (by decide) (by decide) (by decide) (by decide) (by decide)).trans rfl
                      have ki277 : (F267 48 x1.toNatClampNeg).toInt = (F240 48 x1.toNatClampNeg).toInt := by rw [kk276]
                      have kk278 : F267 55 x1.toNatClampNeg = (F240 55 x1.toNatClampNeg) := (fr271 55 x1.toNatClampNeg (by decide) (by decide) (by decide) (by decide) (by decide) (by decide)).trans rfl
                      have ki279 : (F267 55 x1.toNatClampNeg).toInt = (F240 55 x1.toNatClampNeg).toInt := by rw [kk278]
                      have ki280 : mpop (F267 55 x1.toNatClampNeg).toInt = mpop (F240 55 x1.toNatClampNeg).toInt := by rw [kk278]
                      have kk281 : F267 57 x1.toNatClampNeg = (F240 57 x1.toNatClampNeg) := (fr271 57 x1.toNatClampNeg (by decide) (by decide) (by decide) (by decide) (by decide) (by decide)).trans rfl
                      have ki282 : (F267 57 x1.toNatClampNeg).toInt = (F240 57 x1.toNatClampNeg).toInt := by rw [kk281]
                      show x_seq _ _ _ _ ([.inr (.inr (8, 1)), .inl x1, .inl x2, .inl x3, .inl sjn1_0, .inl ylp6_5, .inl (F9 35 v23.toNatClampNeg), .inl v39, .inl v45], [], mh h F267)
                      refine q_aload rfl (by decide) ?_
                      refine m_gfr S (n := 72) (by decide) ?_
                      refine q_iload rfl ?_
                      refine q_aload rfl (by decide) ?_
                      refine m_gfr S (n := 72) (by decide) ?_
                      refine q_iload rfl ?_
                      refine m_ald (k := 37) (n := 72) S (by decide) (by omega) (by omega) ?_
                      have e283 : 0 ≤ (F267 55 x1.toNatClampNeg).toInt ∧ (F267 55 x1.toNatClampNeg).toInt ≤ 7 := M271.rg (lo := 0) (hi := 7) (by decide) _
                      refine v_iconst (k := 1) rfl (fun v284 e285 => ?_)
                      refine q_iload rfl ?_
                      refine q_bin ?_
                      show x_seq _ _ _ _ ([.inr (.inr (8, 1)), .inl x1, .inl x2, .inl x3, .inl sjn1_0, .inl ylp6_5, .inl (F9 35 v23.toNatClampNeg), .inl v39, .inl v45], [.inl (v284 <<< ((F9 35 v23.toNatClampNeg) &&& 31)), .inl (F267 55 x1.toNatClampNeg), .inl x1, .inr (.inr (55, 1))], mh h F267)
                      refine q_bin ?_
                      show x_seq _ _ _ _ ([.inr (.inr (8, 1)), .inl x1, .inl x2, .inl x3, .inl sjn1_0, .inl ylp6_5, .inl (F9 35 v23.toNatClampNeg), .inl v39, .inl v45], [.inl ((F267 55 x1.toNatClampNeg) ||| (v284 <<< ((F9 35 v23.toNatClampNeg) &&& 31))), .inl x1, .inr (.inr (55, 1))], mh h F267)
                      have hor2 : (0 ≤ ((F267 55 x1.toNatClampNeg) ||| (v284 <<< ((F9 35 v23.toNatClampNeg) &&& 31))).toInt ∧ ((F267 55 x1.toNatClampNeg) ||| (v284 <<< ((F9 35 v23.toNatClampNeg) &&& 31))).toInt ≤ 7) ∧ mpop ((F267 55 x1.toNatClampNeg) ||| (v284 <<< ((F9 35 v23.toNatClampNeg) &&& 31))).toInt = mpop (F9 55 x1.toNatClampNeg).toInt + 1 := by rw [kk278, kk251, kk228]; exact m_or' (u := v29) (by omega) (by omega) (by omega) (by omega) hvis
                      refine m_ast (k := 37) (n := 72) S (by decide) (by omega) (by omega) ?_
                      show x_seq _ _ _ _ ([.inr (.inr (8, 1)), .inl x1, .inl x2, .inl x3, .inl sjn1_0, .inl ylp6_5, .inl (F9 35 v23.toNatClampNeg), .inl v39, .inl v45], [], mh h (x_u2 F267 55 x1.toNatClampNeg ((F267 55 x1.toNatClampNeg) ||| (v284 <<< ((F9 35 v23.toNatClampNeg) &&& 31)))))
                      refine q_aload rfl (by decide) ?_
                      refine m_gfr S (n := 72) (by decide) ?_
                      refine q_iload rfl ?_
                      refine v_iconst (k := 3) rfl (fun v290 e291 => ?_)
                      refine m_ast (k := 29) (n := 72) S (by decide) (by omega) (by omega) ?_
                      show x_seq _ _ _ _ ([.inr (.inr (8, 1)), .inl x1, .inl x2, .inl x3, .inl sjn1_0, .inl ylp6_5, .inl (F9 35 v23.toNatClampNeg), .inl v39, .inl v45], [], mh h (x_u2 (x_u2 F267 55 x1.toNatClampNeg ((F267 55 x1.toNatClampNeg) ||| (v284 <<< ((F9 35 v23.toNatClampNeg) &&& 31)))) 47 x1.toNatClampNeg v290))
                      refine q_aload rfl (by decide) ?_
                      refine m_gfr S (n := 72) (by decide) ?_
                      refine q_iload rfl ?_
                      refine q_aload rfl (by decide) ?_
                      refine m_gfr S (n := 72) (by decide) ?_
                      refine q_iload rfl ?_
                      refine m_ald (k := 30) (n := 72) S (by decide) (by omega) (by omega) ?_
                      have e292 : 0 ≤ (F267 48 x1.toNatClampNeg).toInt ∧ (F267 48 x1.toNatClampNeg).toInt ≤ 5 := M271.rg (lo := 0) (hi := 5) (by decide) _
                      show x_seq _ _ _ _ ([.inr (.inr (8, 1)), .inl x1, .inl x2, .inl x3, .inl sjn1_0, .inl ylp6_5, .inl (F9 35 v23.toNatClampNeg), .inl v39, .inl v45], [.inl (F267 48 x1.toNatClampNeg), .inl x1, .inr (.inr (52, 1))], mh h (x_u2 (x_u2 F267 55 x1.toNatClampNeg ((F267 55 x1.toNatClampNeg) ||| (v284 <<< ((F9 35 v23.toNatClampNeg) &&& 31)))) 47 x1.toNatClampNeg v290))
                      refine m_ast (k := 34) (n := 72) S (by decide) (by omega) (by omega) ?_
                      show x_seq _ _ _ _ ([.inr (.inr (8, 1)), .inl x1, .inl x2, .inl x3, .inl sjn1_0, .inl ylp6_5, .inl (F9 35 v23.toNatClampNeg), .inl v39, .inl v45], [], mh h (x_u2 (x_u2 (x_u2 F267 55 x1.toNatClampNeg ((F267 55 x1.toNatClampNeg) ||| (v284 <<< ((F9 35 v23.toNatClampNeg) &&& 31)))) 47 x1.toNatClampNeg v290) 52 x1.toNatClampNeg (F267 48 x1.toNatClampNeg)))
                      refine q_aload rfl (by decide) ?_
                      refine m_gfr S (n := 72) (by decide) ?_
                      refine q_iload rfl ?_
                      refine q_iload rfl ?_
                      refine m_ast (k := 35) (n := 72) S (by decide) (by omega) (by omega) ?_
                      show x_seq _ _ _ _ ([.inr (.inr (8, 1)), .inl x1, .inl x2, .inl x3, .inl sjn1_0, .inl ylp6_5, .inl (F9 35 v23.toNatClampNeg), .inl v39, .inl v45], [], mh h (x_u2 (x_u2 (x_u2 (x_u2 F267 55 x1.toNatClampNeg ((F267 55 x1.toNatClampNeg) ||| (v284 <<< ((F9 35 v23.toNatClampNeg) &&& 31)))) 47 x1.toNatClampNeg v290) 52 x1.toNatClampNeg (F267 48 x1.toNatClampNeg)) 53 x1.toNatClampNeg (F9 35 v23.toNatClampNeg)))
                      refine q_aload rfl (by decide) ?_
                      refine m_gfr S (n := 72) (by decide) ?_
                      refine q_iload rfl ?_
                      refine q_iload rfl ?_
                      refine m_ast (k := 36) (n := 72) S (by decide) (by omega) (by omega) ?_
                      show x_seq _ _ _ _ ([.inr (.inr (8, 1)), .inl x1, .inl x2, .inl x3, .inl sjn1_0, .inl ylp6_5, .inl (F9 35 v23.toNatClampNeg), .inl v39, .inl v45], [], mh h (x_u2 (x_u2 (x_u2 (x_u2 (x_u2 F267 55 x1.toNatClampNeg ((F267 55 x1.toNatClampNeg) ||| (v284 <<< ((F9 35 v23.toNatClampNeg) &&& 31)))) 47 x1.toNatClampNeg v290) 52 x1.toNatClampNeg (F267 48 x1.toNatClampNeg)) 53 x1.toNatClampNeg (F9 35 v23.toNatClampNeg)) 54 x1.toNatClampNeg v45))
                      exact q_ret (hZ _ _ ⟨⟨(MX.close (MX.put (K := 54) (i := x1.toNatClampNeg) (v := v45) (MX.put (K := 53) (i := x1.toNatClampNeg) (v := (F9 35 v23.toNatClampNeg)) (MX.put (K := 52) (i := x1.toNatClampNeg) (v := (F267 48 x1.toNatClampNeg)) (MX.put (K := 47) (i := x1.toNatClampNeg) (v := v290) (MX.put (K := 55) (i := x1.toNatClampNeg) (v := ((F267 55 x1.toNatClampNeg) ||| (v284 <<< ((F9 35 v23.toNatClampNeg) &&& 31)))) M271 (fun lo hi hm => by simp only [mrl, List.mem_cons, Prod.mk.injEq, List.not_mem_nil, or_false] at hm; omega) (by decide) (fun z => absurd z (by decide)) (Or.inr rfl)) (fun lo hi hm => by simp only [mrl, List.mem_cons, Prod.mk.injEq, List.not_mem_nil, or_false] at hm; omega) (by decide) (fun z => absurd z (by decide)) (Or.inr rfl)) (fun lo hi hm => by simp only [mrl, List.mem_cons, Prod.mk.injEq, List.not_mem_nil, or_false] at hm; omega) (by decide) (fun z => absurd z (by decide)) (Or.inl rfl)) (fun lo hi hm => by simp only [mrl, List.mem_cons, Prod.mk.injEq, List.not_mem_nil, or_false] at hm; omega) (by decide) (fun z => absurd z (by decide)) (Or.inl rfl)) (fun lo hi hm => by simp only [mrl, List.mem_cons, Prod.mk.injEq, List.not_mem_nil, or_false] at hm; omega) (by decide) (fun z => absurd z (by decide)) (Or.inl rfl)) (by unfold SL; rw [show (x_u2 (x_u2 (x_u2 (x_u2 (x_u2 F267 55 x1.toNatClampNeg ((F267 55 x1.toNatClampNeg) ||| (v284 <<< ((F9 35 v23.toNatClampNeg) &&& 31)))) 47 x1.toNatClampNeg v290) 52 x1.toNatClampNeg (F267 48 x1.toNatClampNeg)) 53 x1.toNatClampNeg (F9 35 v23.toNatClampNeg)) 54 x1.toNatClampNeg v45) 47 x1.toNatClampNeg = v290 from (by rw [u2_ne (by decide), u2_ne (by decide), u2_ne (by decide), u2_eq]), show (x_u2 (x_u2 (x_u2 (x_u2 (x_u2 F267 55 x1.toNatClampNeg ((F267 55 x1.toNatClampNeg) ||| (v284 <<< ((F9 35 v23.toNatClampNeg) &&& 31)))) 47 x1.toNatClampNeg v290) 52 x1.toNatClampNeg (F267 48 x1.toNatClampNeg)) 53 x1.toNatClampNeg (F9 35 v23.toNatClampNeg)) 54 x1.toNatClampNeg v45) 48 x1.toNatClampNeg = (F267 48 x1.toNatClampNeg) from (by rw [u2_ne (by decide), u2_ne (by decide), u2_ne (by decide), u2_ne (by decide), u2_ne (by decide)]), show (x_u2 (x_u2 (x_u2 (x_u2 (x_u2 F267 55 x1.toNatClampNeg ((F267 55 x1.toNatClampNeg) ||| (v284 <<< ((F9 35 v23.toNatClampNeg) &&& 31)))) 47 x1.toNatClampNeg v290) 52 x1.toNatClampNeg (F267 48 x1.toNatClampNeg)) 53 x1.toNatClampNeg (F9 35 v23.toNatClampNeg)) 54 x1.toNatClampNeg v45) 63 x1.toNatClampNeg = (F267 63 x1.toNatClampNeg) from (by rw [u2_ne (by decide), u2_ne (by decide), u2_ne (by decide), u2_ne (by decide), u2_ne (by decide)]), show (x_u2 (x_u2 (x_u2 (x_u2 (x_u2 F267 55 x1.toNatClampNeg ((F267 55 x1.toNatClampNeg) ||| (v284 <<< ((F9 35 v23.toNatClampNeg) &&& 31)))) 47 x1.toNatClampNeg v290) 52 x1.toNatClampNeg (F267 48 x1.toNatClampNeg)) 53 x1.toNatClampNeg (F9 35 v23.toNatClampNeg)) 54 x1.toNatClampNeg v45) 55 x1.toNatClampNeg = ((F267 55 x1.toNatClampNeg) ||| (v284 <<< ((F9 35 v23.toNatClampNeg) &&& 31))) from (by rw [u2_ne (by decide), u2_ne (by decide), u2_ne (by decide), u2_ne (by decide), u2_eq]), show (x_u2 (x_u2 (x_u2 (x_u2 (x_u2 F267 55 x1.toNatClampNeg ((F267 55 x1.toNatClampNeg) ||| (v284 <<< ((F9 35 v23.toNatClampNeg) &&& 31)))) 47 x1.toNatClampNeg v290) 52 x1.toNatClampNeg (F267 48 x1.toNatClampNeg)) 53 x1.toNatClampNeg (F9 35 v23.toNatClampNeg)) 54 x1.toNatClampNeg v45) 57 x1.toNatClampNeg = (F267 57 x1.toNatClampNeg) from (by rw [u2_ne (by decide), u2_ne (by decide), u2_ne (by decide), u2_ne (by decide), u2_ne (by decide)]), show (x_u2 (x_u2 (x_u2 (x_u2 (x_u2 F267 55 x1.toNatClampNeg ((F267 55 x1.toNatClampNeg) ||| (v284 <<< ((F9 35 v23.toNatClampNeg) &&& 31)))) 47 x1.toNatClampNeg v290) 52 x1.toNatClampNeg (F267 48 x1.toNatClampNeg)) 53 x1.toNatClampNeg (F9 35 v23.toNatClampNeg)) 54 x1.toNatClampNeg v45) 24 x1.toNatClampNeg = (F267 24 x1.toNatClampNeg) from (by rw [u2_ne (by decide), u2_ne (by decide), u2_ne (by decide), u2_ne (by decide), u2_ne (by decide)])]; exact ⟨fun z => by omega, fun z => by omega, fun z => by omega, fun z => by omega⟩)), (FR.put (K := 54) (i := x1.toNatClampNeg) (v := v45) (FR.put (K := 53) (i := x1.toNatClampNeg) (v := (F9 35 v23.toNatClampNeg)) (FR.put (K := 52) (i := x1.toNatClampNeg) (v := (F267 48 x1.toNatClampNeg)) (FR.put (K := 47) (i := x1.toNatClampNeg) (v := v290) (FR.put (K := 55) (i := x1.toNatClampNeg) (v := ((F267 55 x1.toNatClampNeg) ||| (v284 <<< ((F9 35 v23.toNatClampNeg) &&& 31)))) (FR.trans (FR.trans (FR.trans klp6_1 (FR.way q225.2.1 q225.2.2.1 q225.2.2.2)) (FR.rel fr244)) (FR.rel fr271)) rfl) rfl) rfl) rfl) rfl)⟩, rfl⟩)
                    · skip
                      refine q_aload rfl (by decide) ?_
                      refine q_iload rfl ?_
                      refine v_iconst (k := 1000) rfl (fun v293 e294 => ?_)
                      refine q_iload rfl ?_
                      refine v_imul' e294 (by omega) (fun v295 e296 => ?_)
                      refine v_iconst (k := 4) rfl (fun v297 e298 => ?_)
                      refine q_iload rfl ?_
                      refine v_iconst (k := 24) rfl (fun v299 e300 => ?_)
                      refine v_irem e300 (by decide) (by omega) (fun v301 e302 => ?_)
                      refine v_iconst (k := 8) rfl (fun v303 e304 => ?_)
                      refine v_idiv e304 (by decide) (by omega) (fun v305 e306 => ?_)
                      refine v_imul' e298 (by omega) (fun v307 e308 => ?_)
                      refine v_iadd (by omega) (fun v309 e310 => ?_)
                      refine q_aload rfl (by decide) ?_
                      refine m_gfi S ?_
                      have e311 : 0 ≤ (F222 8 47).toInt ∧ (F222 8 47).toInt ≤ 3 := q225.1.fl (lo := 0) (hi := 3) (by decide)
                      refine v_iadd (by omega) (fun v312 e313 => ?_)
                      refine q_callv (j := 1) rfl (by decide) ⟨Nat.le_refl 1, Nat.le_of_eq S.1.symm⟩ (Nat.le_of_ble_eq_true rfl) (Nat.le_of_ble_eq_true rfl) (by show x_ce h + 0 ≤ 0; rw [S.2.2.1]; exact Nat.le_refl 0) (by show x_so h + 0 ≤ 0; rw [S.2.2.2]; exact Nat.le_refl 0) ?_
                      refine xC.up (tv100 (h := x_setc h 0 0) (F := F222) (x1 := x1) (x2 := v312) S.set (by omega) (by unfold VC; omega) (by omega) (fun o314 F315 hp => ?_)) (by omega)
                      obtain ⟨q318, rfl⟩ := hp
                      obtain ⟨w319, j319, K319, i319, e319, hw319, hK319, hR319⟩ := q318
                      have fr319 : ∀ K i, K ≠ 36 → K ≠ 37 → K ≠ 38 → K ≠ 41 → K ≠ 63 → K ≠ 64 → F315 K i = F222 K i := fun K i a b c d f g => by rw [e319, u2_ne (gv_ne hK319 a b c d), u2_ne f, u2_ne g]
                      have M319 : MX x1.toNatClampNeg F315 := by rw [e319]; exact MX.seize q225.1 (by unfold VC; omega) (by omega) hK319 (by omega)
                      have t319 : (F315 63 x1.toNatClampNeg).toInt = (F222 63 x1.toNatClampNeg).toInt + 1 := by rw [e319, u2_ne (gv_ne hK319 (by decide) (by decide) (by decide) (by decide)), u2_eq]; exact hw319
                      have kk320 : F315 24 x1.toNatClampNeg = (F222 24 x1.toNatClampNeg) := (fr319 24 x1.toNatClampNeg (by decide) (by decide) (by decide) (by decide) (by decide) (by decide)).trans rfl
                      have ki321 : (F315 24 x1.toNatClampNeg).toInt = (F222 24 x1.toNatClampNeg).toInt := by rw [kk320]
                      have kk322 : F315 47 x1.toNatClampNeg = (F222 47 x1.toNatClampNeg) := (fr319 47 x1.toNatClampNeg (by decide) (by decide) (by decide) (by decide) (by decide) (by decide)).trans rfl
                      have ki323 : (F315 47 x1.toNatClampNeg).toInt = (F222 47 x1.toNatClampNeg).toInt := by rw [kk322]
                      have kk324 : F315 48 x1.toNatClampNeg = (F222 48 x1.toNatClampNeg) := (fr319 48 x1.toNatClampNeg (by decide) (by decide) (by decide) (by decide) (by decide) (by decide)).trans rfl
                      have ki325 : (F315 48 x1.toNatClampNeg).toInt = (F222 48 x1.toNatClampNeg).toInt := by rw [kk324]
                      have kk326 : F315 55 x1.toNatClampNeg = (F222 55 x1.toNatClampNeg) := (fr319 55 x1.toNatClampNeg (by decide) (by decide) (by decide) (by decide) (by decide) (by decide)).trans rfl
                      have ki327 : (F315 55 x1.toNatClampNeg).toInt = (F222 55 x1.toNatClampNeg).toInt := by rw [kk326]
                      have ki328 : mpop (F315 55 x1.toNatClampNeg).toInt = mpop (F222 55 x1.toNatClampNeg).toInt := by rw [kk326]
                      have kk329 : F315 57 x1.toNatClampNeg = (F222 57 x1.toNatClampNeg) := (fr319 57 x1.toNatClampNeg (by decide) (by decide) (by decide) (by decide) (by decide) (by decide)).trans rfl
                      have ki330 : (F315 57 x1.toNatClampNeg).toInt = (F222 57 x1.toNatClampNeg).toInt := by rw [kk329]
                      show x_seq _ _ _ _ ([.inr (.inr (8, 1)), .inl x1, .inl x2, .inl x3, .inl sjn1_0, .inl ylp6_5, .inl (F9 35 v23.toNatClampNeg), .inl v39, .inl v45], [], mh h F315)
                      refine q_aload rfl (by decide) ?_
                      refine m_gfr S (n := 3) (by decide) ?_
                      refine q_iload rfl ?_
                      refine q_aload rfl (by decide) ?_
                      refine m_gfi S ?_
                      have e331 : 0 ≤ (F315 8 47).toInt ∧ (F315 8 47).toInt ≤ 3 := M319.fl (lo := 0) (hi := 3) (by decide)
                      refine v_iconst (k := 1) rfl (fun v332 e333 => ?_)
                      refine v_iadd (by omega) (fun v334 e335 => ?_)
                      refine v_iconst (k := 4) rfl (fun v336 e337 => ?_)
                      refine v_irem e337 (by decide) (by omega) (fun v338 e339 => ?_)
                      refine m_ast (k := 25) (n := 3) S (by decide) (by omega) (by omega) ?_
                      show x_seq _ _ _ _ ([.inr (.inr (8, 1)), .inl x1, .inl x2, .inl x3, .inl sjn1_0, .inl ylp6_5, .inl (F9 35 v23.toNatClampNeg), .inl v39, .inl v45], [], mh h (x_u2 F315 43 x2.toNatClampNeg v338))
                      refine q_goto ?_
                      refine xR.blk c123_170 ?_
                      refine q_aload rfl (by decide) ?_
                      refine q_iload rfl ?_
                      refine v_iconst (k := 5000) rfl (fun v340 e341 => ?_)
                      refine q_iload rfl ?_
                      refine v_iadd (by omega) (fun v342 e343 => ?_)
                      refine q_callv (j := 1) rfl (by decide) ⟨Nat.le_refl 1, Nat.le_of_eq S.1.symm⟩ (Nat.le_of_ble_eq_true rfl) (Nat.le_of_ble_eq_true rfl) (by show x_ce h + 0 ≤ 0; rw [S.2.2.1]; exact Nat.le_refl 0) (by show x_so h + 0 ≤ 0; rw [S.2.2.2]; exact Nat.le_refl 0) ?_
                      refine xC.up (tv100 (h := x_setc h 0 0) (F := (x_u2 F315 43 x2.toNatClampNeg v338)) (x1 := x1) (x2 := v342) S.set (by omega) (by unfold VC; omega) (by rw [show (x_u2 F315 43 x2.toNatClampNeg v338) 63 x1.toNatClampNeg = (F315 63 x1.toNatClampNeg) from (by rw [u2_ne (by decide)])]; omega) (fun o344 F345 hp => ?_)) (by omega)
                      obtain ⟨q348, rfl⟩ := hp
                      obtain ⟨w349, j349, K349, i349, e349, hw349, hK349, hR349⟩ := q348
                      rw [show (x_u2 F315 43 x2.toNatClampNeg v338) 63 x1.toNatClampNeg = (F315 63 x1.toNatClampNeg) from (by rw [u2_ne (by decide)])] at hw349
                      have fr349 : ∀ K i, K ≠ 36 → K ≠ 37 → K ≠ 38 → K ≠ 41 → K ≠ 63 → K ≠ 64 → F345 K i = (x_u2 F315 43 x2.toNatClampNeg v338) K i := fun K i a b c d f g => by rw [e349, u2_ne (gv_ne hK349 a b c d), u2_ne f, u2_ne g]
                      have M349 : MX x1.toNatClampNeg F345 := by rw [e349]; exact MX.seize (MX.put (K := 43) (i := x2.toNatClampNeg) (v := v338) M319 (fun lo hi hm => by simp only [mrl, List.mem_cons, Prod.mk.injEq, List.not_mem_nil, or_false] at hm; omega) (by decide) (fun z => absurd z (by decide)) (Or.inl rfl)) (by unfold VC; omega) (by omega) hK349 (by omega)
                      have t349 : (F345 63 x1.toNatClampNeg).toInt = (F315 63 x1.toNatClampNeg).toInt + 1 := by rw [e349, u2_ne (gv_ne hK349 (by decide) (by decide) (by decide) (by decide)), u2_eq]; exact hw349
                      have kk350 : F345 24 x1.toNatClampNeg = (F315 24 x1.toNatClampNeg) := (fr349 24 x1.toNatClampNeg (by decide) (by decide) (by decide) (by decide) (by decide) (by decide)).trans (by rw [u2_ne (by decide)])
                      have ki351 : (F345 24 x1.toNatClampNeg).toInt = (F315 24 x1.toNatClampNeg).toInt := by rw [kk350]
                      have kk352 : F345 47 x1.toNatClampNeg = (F315 47 x1.toNatClampNeg) := (fr349 47 x1.toNatClampNeg (by decide) (by decide) (by decide) (by decide) (by decide) (by decide)).trans (by rw [u2_ne (by decide)])
                      have ki353 : (F345 47 x1.toNatClampNeg).toInt = (F315 47 x1.toNatClampNeg).toInt := by rw [kk352]
                      have kk354 : F345 48 x1.toNatClampNeg = (F315 48 x1.toNatClampNeg) := (fr349 48 x1.toNatClampNeg (by decide) (by decide) (by decide) (by decide) (by decide) (by decide)).trans (by rw [u2_ne (by decide)])
                      have ki355 : (F345 48 x1.toNatClampNeg).toInt = (F315 48 x1.toNatClampNeg).toInt := by rw [kk354]
                      have kk356 : F345 55 x1.toNatClampNeg = (F315 55 x1.toNatClampNeg) := (fr349 55 x1.toNatClampNeg (by decide) (by decide) (by decide) (by decide) (by decide) (by decide)).trans (by rw [u2_ne (by decide)])
                      have ki357 : (F345 55 x1.toNatClampNeg).toInt = (F315 55 x1.toNatClampNeg).toInt := by rw [kk356]
                      have ki358 : mpop (F345 55 x1.toNatClampNeg).toInt = mpop (F315 55 x1.toNatClampNeg).toInt := by rw [kk356]
                      have kk359 : F345 57 x1.toNatClampNeg = (F315 57 x1.toNatClampNeg) := (fr349 57 x1.toNatClampNeg (by decide) (by decide) (by decide) (by decide) (by decide) (by decide)).trans (by rw [u2_ne (by decide)])
                      have ki360 : (F345 57 x1.toNatClampNeg).toInt = (F315 57 x1.toNatClampNeg).toInt := by rw [kk359]
                      show x_seq _ _ _ _ ([.inr (.inr (8, 1)), .inl x1, .inl x2, .inl x3, .inl sjn1_0, .inl ylp6_5, .inl (F9 35 v23.toNatClampNeg), .inl v39, .inl v45], [], mh h F345)
                      refine q_aload rfl (by decide) ?_
                      refine q_iload rfl ?_
                      refine v_iconst (k := 1000) rfl (fun v361 e362 => ?_)
                      refine q_iload rfl ?_
                      refine v_imul' e362 (by omega) (fun v363 e364 => ?_)
                      refine v_iconst (k := 30) rfl (fun v365 e366 => ?_)
                      refine v_iadd (by omega) (fun v367 e368 => ?_)
                      refine q_iload rfl ?_
                      refine v_iadd (by omega) (fun v369 e370 => ?_)
                      refine q_callv (j := 1) rfl (by decide) ⟨Nat.le_refl 1, Nat.le_of_eq S.1.symm⟩ (Nat.le_of_ble_eq_true rfl) (Nat.le_of_ble_eq_true rfl) (by show x_ce h + 0 ≤ 0; rw [S.2.2.1]; exact Nat.le_refl 0) (by show x_so h + 0 ≤ 0; rw [S.2.2.2]; exact Nat.le_refl 0) ?_
                      refine xC.up (tv100 (h := x_setc h 0 0) (F := F345) (x1 := x1) (x2 := v369) S.set (by omega) (by unfold VC; omega) (by omega) (fun o371 F372 hp => ?_)) (by omega)
                      obtain ⟨q375, rfl⟩ := hp
                      obtain ⟨w376, j376, K376, i376, e376, hw376, hK376, hR376⟩ := q375
                      have fr376 : ∀ K i, K ≠ 36 → K ≠ 37 → K ≠ 38 → K ≠ 41 → K ≠ 63 → K ≠ 64 → F372 K i = F345 K i := fun K i a b c d f g => by rw [e376, u2_ne (gv_ne hK376 a b c d), u2_ne f, u2_ne g]
                      have M376 : MX x1.toNatClampNeg F372 := by rw [e376]; exact MX.seize M349 (by unfold VC; omega) (by omega) hK376 (by omega)
                      have t376 : (F372 63 x1.toNatClampNeg).toInt = (F345 63 x1.toNatClampNeg).toInt + 1 := by rw [e376, u2_ne (gv_ne hK376 (by decide) (by decide) (by decide) (by decide)), u2_eq]; exact hw376
                      have kk377 : F372 24 x1.toNatClampNeg = (F345 24 x1.toNatClampNeg) := (fr376 24 x1.toNatClampNeg (by decide) (by decide) (by decide) (by decide) (by decide) (by decide)).trans rfl
                      have ki378 : (F372 24 x1.toNatClampNeg).toInt = (F345 24 x1.toNatClampNeg).toInt := by rw [kk377]
                      have kk379 : F372 47 x1.toNatClampNeg = (F345 47 x1.toNatClampNeg) := (fr376 47 x1.toNatClampNeg (by decide) (by decide) (by decide) (by decide) (by decide) (by decide)).trans rfl
                      have ki380 : (F372 47 x1.toNatClampNeg).toInt = (F345 47 x1.toNatClampNeg).toInt := by rw [kk379]
                      have kk381 : F372 48 x1.toNatClampNeg = (F345 48 x1.toNatClampNeg) := (fr376 48 x1.toNatClampNeg (by decide) (by decide) (by decide) (by decide) (by decide) (by decide)).trans rfl
                      have ki382 : (F372 48 x1.toNatClampNeg).toInt = (F345 48 x1.toNatClampNeg).toInt := by rw [kk381]
                      have kk383 : F372 55 x1.toNatClampNeg = (F345 55 x1.toNatClampNeg) := (fr376 55 x1.toNatClampNeg (by decide) (by decide) (by decide) (by decide) (by decide) (by decide)).trans rfl
                      have ki384 : (F372 55 x1.toNatClampNeg).toInt = (F345 55 x1.toNatClampNeg).toInt := by rw [kk383]
                      have ki385 : mpop (F372 55 x1.toNatClampNeg).toInt = mpop (F345 55 x1.toNatClampNeg).toInt := by rw [kk383]
                      have kk386 : F372 57 x1.toNatClampNeg = (F345 57 x1.toNatClampNeg) := (fr376 57 x1.toNatClampNeg (by decide) (by decide) (by decide) (by decide) (by decide) (by decide)).trans rfl
                      have ki387 : (F372 57 x1.toNatClampNeg).toInt = (F345 57 x1.toNatClampNeg).toInt := by rw [kk386]
                      show x_seq _ _ _ _ ([.inr (.inr (8, 1)), .inl x1, .inl x2, .inl x3, .inl sjn1_0, .inl ylp6_5, .inl (F9 35 v23.toNatClampNeg), .inl v39, .inl v45], [], mh h F372)
                      refine q_aload rfl (by decide) ?_
                      refine m_gfr S (n := 72) (by decide) ?_
                      refine q_iload rfl ?_
                      refine q_aload rfl (by decide) ?_
                      refine m_gfr S (n := 72) (by decide) ?_
                      refine q_iload rfl ?_
                      refine m_ald (k := 37) (n := 72) S (by decide) (by omega) (by omega) ?_
                      have e388 : 0 ≤ (F372 55 x1.toNatClampNeg).toInt ∧ (F372 55 x1.toNatClampNeg).toInt ≤ 7 := M376.rg (lo := 0) (hi := 7) (by decide) _
                      refine v_iconst (k := 1) rfl (fun v389 e390 => ?_)
                      refine q_iload rfl ?_
                      refine q_bin ?_
                      show x_seq _ _ _ _ ([.inr (.inr (8, 1)), .inl x1, .inl x2, .inl x3, .inl sjn1_0, .inl ylp6_5, .inl (F9 35 v23.toNatClampNeg), .inl v39, .inl v45], [.inl (v389 <<< ((F9 35 v23.toNatClampNeg) &&& 31)), .inl (F372 55 x1.toNatClampNeg), .inl x1, .inr (.inr (55, 1))], mh h F372)
                      refine q_bin ?_
                      show x_seq _ _ _ _ ([.inr (.inr (8, 1)), .inl x1, .inl x2, .inl x3, .inl sjn1_0, .inl ylp6_5, .inl (F9 35 v23.toNatClampNeg), .inl v39, .inl v45], [.inl ((F372 55 x1.toNatClampNeg) ||| (v389 <<< ((F9 35 v23.toNatClampNeg) &&& 31))), .inl x1, .inr (.inr (55, 1))], mh h F372)
                      have hor2 : (0 ≤ ((F372 55 x1.toNatClampNeg) ||| (v389 <<< ((F9 35 v23.toNatClampNeg) &&& 31))).toInt ∧ ((F372 55 x1.toNatClampNeg) ||| (v389 <<< ((F9 35 v23.toNatClampNeg) &&& 31))).toInt ≤ 7) ∧ mpop ((F372 55 x1.toNatClampNeg) ||| (v389 <<< ((F9 35 v23.toNatClampNeg) &&& 31))).toInt = mpop (F9 55 x1.toNatClampNeg).toInt + 1 := by rw [kk383, kk356, kk326, kk228]; exact m_or' (u := v29) (by omega) (by omega) (by omega) (by omega) hvis
                      refine m_ast (k := 37) (n := 72) S (by decide) (by omega) (by omega) ?_
                      show x_seq _ _ _ _ ([.inr (.inr (8, 1)), .inl x1, .inl x2, .inl x3, .inl sjn1_0, .inl ylp6_5, .inl (F9 35 v23.toNatClampNeg), .inl v39, .inl v45], [], mh h (x_u2 F372 55 x1.toNatClampNeg ((F372 55 x1.toNatClampNeg) ||| (v389 <<< ((F9 35 v23.toNatClampNeg) &&& 31)))))
                      refine q_aload rfl (by decide) ?_
                      refine m_gfr S (n := 72) (by decide) ?_
                      refine q_iload rfl ?_
                      refine v_iconst (k := 3) rfl (fun v395 e396 => ?_)
                      refine m_ast (k := 29) (n := 72) S (by decide) (by omega) (by omega) ?_
                      show x_seq _ _ _ _ ([.inr (.inr (8, 1)), .inl x1, .inl x2, .inl x3, .inl sjn1_0, .inl ylp6_5, .inl (F9 35 v23.toNatClampNeg), .inl v39, .inl v45], [], mh h (x_u2 (x_u2 F372 55 x1.toNatClampNeg ((F372 55 x1.toNatClampNeg) ||| (v389 <<< ((F9 35 v23.toNatClampNeg) &&& 31)))) 47 x1.toNatClampNeg v395))
                      refine q_aload rfl (by decide) ?_
                      refine m_gfr S (n := 72) (by decide) ?_
                      refine q_iload rfl ?_
                      refine q_aload rfl (by decide) ?_
                      refine m_gfr S (n := 72) (by decide) ?_
                      refine q_iload rfl ?_
                      refine m_ald (k := 30) (n := 72) S (by decide) (by omega) (by omega) ?_
                      have e397 : 0 ≤ (F372 48 x1.toNatClampNeg).toInt ∧ (F372 48 x1.toNatClampNeg).toInt ≤ 5 := M376.rg (lo := 0) (hi := 5) (by decide) _
                      show x_seq _ _ _ _ ([.inr (.inr (8, 1)), .inl x1, .inl x2, .inl x3, .inl sjn1_0, .inl ylp6_5, .inl (F9 35 v23.toNatClampNeg), .inl v39, .inl v45], [.inl (F372 48 x1.toNatClampNeg), .inl x1, .inr (.inr (52, 1))], mh h (x_u2 (x_u2 F372 55 x1.toNatClampNeg ((F372 55 x1.toNatClampNeg) ||| (v389 <<< ((F9 35 v23.toNatClampNeg) &&& 31)))) 47 x1.toNatClampNeg v395))
                      refine m_ast (k := 34) (n := 72) S (by decide) (by omega) (by omega) ?_
                      show x_seq _ _ _ _ ([.inr (.inr (8, 1)), .inl x1, .inl x2, .inl x3, .inl sjn1_0, .inl ylp6_5, .inl (F9 35 v23.toNatClampNeg), .inl v39, .inl v45], [], mh h (x_u2 (x_u2 (x_u2 F372 55 x1.toNatClampNeg ((F372 55 x1.toNatClampNeg) ||| (v389 <<< ((F9 35 v23.toNatClampNeg) &&& 31)))) 47 x1.toNatClampNeg v395) 52 x1.toNatClampNeg (F372 48 x1.toNatClampNeg)))
                      refine q_aload rfl (by decide) ?_
                      refine m_gfr S (n := 72) (by decide) ?_
                      refine q_iload rfl ?_
                      refine q_iload rfl ?_
                      refine m_ast (k := 35) (n := 72) S (by decide) (by omega) (by omega) ?_
                      show x_seq _ _ _ _ ([.inr (.inr (8, 1)), .inl x1, .inl x2, .inl x3, .inl sjn1_0, .inl ylp6_5, .inl (F9 35 v23.toNatClampNeg), .inl v39, .inl v45], [], mh h (x_u2 (x_u2 (x_u2 (x_u2 F372 55 x1.toNatClampNeg ((F372 55 x1.toNatClampNeg) ||| (v389 <<< ((F9 35 v23.toNatClampNeg) &&& 31)))) 47 x1.toNatClampNeg v395) 52 x1.toNatClampNeg (F372 48 x1.toNatClampNeg)) 53 x1.toNatClampNeg (F9 35 v23.toNatClampNeg)))
                      refine q_aload rfl (by decide) ?_
                      refine m_gfr S (n := 72) (by decide) ?_
                      refine q_iload rfl ?_
                      refine q_iload rfl ?_
                      refine m_ast (k := 36) (n := 72) S (by decide) (by omega) (by omega) ?_
                      show x_seq _ _ _ _ ([.inr (.inr (8, 1)), .inl x1, .inl x2, .inl x3, .inl sjn1_0, .inl ylp6_5, .inl (F9 35 v23.toNatClampNeg), .inl v39, .inl v45], [], mh h (x_u2 (x_u2 (x_u2 (x_u2 (x_u2 F372 55 x1.toNatClampNeg ((F372 55 x1.toNatClampNeg) ||| (v389 <<< ((F9 35 v23.toNatClampNeg) &&& 31)))) 47 x1.toNatClampNeg v395) 52 x1.toNatClampNeg (F372 48 x1.toNatClampNeg)) 53 x1.toNatClampNeg (F9 35 v23.toNatClampNeg)) 54 x1.toNatClampNeg v45))
                      exact q_ret (hZ _ _ ⟨⟨(MX.close (MX.put (K := 54) (i := x1.toNatClampNeg) (v := v45) (MX.put (K := 53) (i := x1.toNatClampNeg) (v := (F9 35 v23.toNatClampNeg)) (MX.put (K := 52) (i := x1.toNatClampNeg) (v := (F372 48 x1.toNatClampNeg)) (MX.put (K := 47) (i := x1.toNatClampNeg) (v := v395) (MX.put (K := 55) (i := x1.toNatClampNeg) (v := ((F372 55 x1.toNatClampNeg) ||| (v389 <<< ((F9 35 v23.toNatClampNeg) &&& 31)))) M376 (fun lo hi hm => by simp only [mrl, List.mem_cons, Prod.mk.injEq, List.not_mem_nil, or_false] at hm; omega) (by decide) (fun z => absurd z (by decide)) (Or.inr rfl)) (fun lo hi hm => by simp only [mrl, List.mem_cons, Prod.mk.injEq, List.not_mem_nil, or_false] at hm; omega) (by decide) (fun z => absurd z (by decide)) (Or.inr rfl)) (fun lo hi hm => by simp only [mrl, List.mem_cons, Prod.mk.injEq, List.not_mem_nil, or_false] at hm; omega) (by decide) (fun z => absurd z (by decide)) (Or.inl rfl)) (fun lo hi hm => by simp only [mrl, List.mem_cons, Prod.mk.injEq, List.not_mem_nil, or_false] at hm; omega) (by decide) (fun z => absurd z (by decide)) (Or.inl rfl)) (fun lo hi hm => by simp only [mrl, List.mem_cons, Prod.mk.injEq, List.not_mem_nil, or_false] at hm; omega) (by decide) (fun z => absurd z (by decide)) (Or.inl rfl)) (by unfold SL; rw [show (x_u2 (x_u2 (x_u2 (x_u2 (x_u2 F372 55 x1.toNatClampNeg ((F372 55 x1.toNatClampNeg) ||| (v389 <<< ((F9 35 v23.toNatClampNeg) &&& 31)))) 47 x1.toNatClampNeg v395) 52 x1.toNatClampNeg (F372 48 x1.toNatClampNeg)) 53 x1.toNatClampNeg (F9 35 v23.toNatClampNeg)) 54 x1.toNatClampNeg v45) 47 x1.toNatClampNeg = v395 from (by rw [u2_ne (by decide), u2_ne (by decide), u2_ne (by decide), u2_eq]), show (x_u2 (x_u2 (x_u2 (x_u2 (x_u2 F372 55 x1.toNatClampNeg ((F372 55 x1.toNatClampNeg) ||| (v389 <<< ((F9 35 v23.toNatClampNeg) &&& 31)))) 47 x1.toNatClampNeg v395) 52 x1.toNatClampNeg (F372 48 x1.toNatClampNeg)) 53 x1.toNatClampNeg (F9 35 v23.toNatClampNeg)) 54 x1.toNatClampNeg v45) 48 x1.toNatClampNeg = (F372 48 x1.toNatClampNeg) from (by rw [u2_ne (by decide), u2_ne (by decide), u2_ne (by decide), u2_ne (by decide), u2_ne (by decide)]), show (x_u2 (x_u2 (x_u2 (x_u2 (x_u2 F372 55 x1.toNatClampNeg ((F372 55 x1.toNatClampNeg) ||| (v389 <<< ((F9 35 v23.toNatClampNeg) &&& 31)))) 47 x1.toNatClampNeg v395) 52 x1.toNatClampNeg (F372 48 x1.toNatClampNeg)) 53 x1.toNatClampNeg (F9 35 v23.toNatClampNeg)) 54 x1.toNatClampNeg v45) 63 x1.toNatClampNeg = (F372 63 x1.toNatClampNeg) from (by rw [u2_ne (by decide), u2_ne (by decide), u2_ne (by decide), u2_ne (by decide), u2_ne (by decide)]), show (x_u2 (x_u2 (x_u2 (x_u2 (x_u2 F372 55 x1.toNatClampNeg ((F372 55 x1.toNatClampNeg) ||| (v389 <<< ((F9 35 v23.toNatClampNeg) &&& 31)))) 47 x1.toNatClampNeg v395) 52 x1.toNatClampNeg (F372 48 x1.toNatClampNeg)) 53 x1.toNatClampNeg (F9 35 v23.toNatClampNeg)) 54 x1.toNatClampNeg v45) 55 x1.toNatClampNeg = ((F372 55 x1.toNatClampNeg) ||| (v389 <<< ((F9 35 v23.toNatClampNeg) &&& 31))) from (by rw [u2_ne (by decide), u2_ne (by decide), u2_ne (by decide), u2_ne (by decide), u2_eq]), show (x_u2 (x_u2 (x_u2 (x_u2 (x_u2 F372 55 x1.toNatClampNeg ((F372 55 x1.toNatClampNeg) ||| (v389 <<< ((F9 35 v23.toNatClampNeg) &&& 31)))) 47 x1.toNatClampNeg v395) 52 x1.toNatClampNeg (F372 48 x1.toNatClampNeg)) 53 x1.toNatClampNeg (F9 35 v23.toNatClampNeg)) 54 x1.toNatClampNeg v45) 57 x1.toNatClampNeg = (F372 57 x1.toNatClampNeg) from (by rw [u2_ne (by decide), u2_ne (by decide), u2_ne (by decide), u2_ne (by decide), u2_ne (by decide)]), show (x_u2 (x_u2 (x_u2 (x_u2 (x_u2 F372 55 x1.toNatClampNeg ((F372 55 x1.toNatClampNeg) ||| (v389 <<< ((F9 35 v23.toNatClampNeg) &&& 31)))) 47 x1.toNatClampNeg v395) 52 x1.toNatClampNeg (F372 48 x1.toNatClampNeg)) 53 x1.toNatClampNeg (F9 35 v23.toNatClampNeg)) 54 x1.toNatClampNeg v45) 24 x1.toNatClampNeg = (F372 24 x1.toNatClampNeg) from (by rw [u2_ne (by decide), u2_ne (by decide), u2_ne (by decide), u2_ne (by decide), u2_ne (by decide)])]; exact ⟨fun z => by omega, fun z => by omega, fun z => by omega, fun z => by omega⟩)), (FR.put (K := 54) (i := x1.toNatClampNeg) (v := v45) (FR.put (K := 53) (i := x1.toNatClampNeg) (v := (F9 35 v23.toNatClampNeg)) (FR.put (K := 52) (i := x1.toNatClampNeg) (v := (F372 48 x1.toNatClampNeg)) (FR.put (K := 47) (i := x1.toNatClampNeg) (v := v395) (FR.put (K := 55) (i := x1.toNatClampNeg) (v := ((F372 55 x1.toNatClampNeg) ||| (v389 <<< ((F9 35 v23.toNatClampNeg) &&& 31)))) (FR.trans (FR.trans (FR.put (K := 43) (i := x2.toNatClampNeg) (v := v338) (FR.trans (FR.trans klp6_1 (FR.way q225.2.1 q225.2.2.1 q225.2.2.2)) (FR.rel fr319)) rfl) (FR.rel fr349)) (FR.rel fr376)) rfl) rfl) rfl) rfl) rfl)⟩, rfl⟩)
                  · skip
                    refine q_goto ?_
                    refine xR.blk c123_251 ?_
                    refine v_iinc (k := 1) rfl rfl (by omega) (by omega) (fun v398 e399 => ?_)
                    show x_seq _ _ _ _ ([.inr (.inr (8, 1)), .inl x1, .inl x2, .inl x3, .inl sjn1_0, .inl v398, .inl (F9 35 v23.toNatClampNeg), .inl v39, .inl v45], [], mh h F222)
                    refine q_goto ?_
                    exact (ih8 v398 (.inl (F9 35 v23.toNatClampNeg)) (.inl v39) (.inl v45) F222 (q225.1) ((FR.trans klp6_1 (FR.way q225.2.1 q225.2.2.1 q225.2.2.2))) (by omega) (by omega) (by omega) (by omega)).up (by omega)
            · skip
              refine q_aload rfl (by decide) ?_
              refine m_gfr S (n := 9) (by decide) ?_
              refine v_iconst (k := 3) rfl (fun v400 e401 => ?_)
              refine q_iload rfl ?_
              refine v_imul' e401 (by omega) (fun v402 e403 => ?_)
              refine q_iload rfl ?_
              refine v_iadd (by omega) (fun v404 e405 => ?_)
              refine q_dup2 rfl rfl ?_
              refine m_ald (k := 26) (n := 9) S (by decide) (by omega) (by omega) ?_
              refine v_iconst (k := 1) rfl (fun v406 e407 => ?_)
              refine v_bin (fun v408 => ?_)
              refine m_ast (k := 26) (n := 9) S (by decide) (by omega) (by omega) ?_
              show x_seq _ _ _ _ ([.inr (.inr (8, 1)), .inl x1, .inl x2, .inl x3, .inl sjn1_0, .inl ylp6_5, .inl (F9 35 v23.toNatClampNeg), .inl v39, zlp6_8], [], mh h (x_u2 F9 44 v404.toNatClampNeg v408))
              refine q_goto ?_
              refine xR.blk c123_251 ?_
              refine v_iinc (k := 1) rfl rfl (by omega) (by omega) (fun v410 e411 => ?_)
              show x_seq _ _ _ _ ([.inr (.inr (8, 1)), .inl x1, .inl x2, .inl x3, .inl sjn1_0, .inl v410, .inl (F9 35 v23.toNatClampNeg), .inl v39, zlp6_8], [], mh h (x_u2 F9 44 v404.toNatClampNeg v408))
              refine q_goto ?_
              exact (ih8 v410 (.inl (F9 35 v23.toNatClampNeg)) (.inl v39) (zlp6_8) (x_u2 F9 44 v404.toNatClampNeg v408) ((MX.put (K := 44) (i := v404.toNatClampNeg) (v := v408) klp6_0 (fun lo hi hm => by simp only [mrl, List.mem_cons, Prod.mk.injEq, List.not_mem_nil, or_false] at hm; omega) (by decide) (fun z => absurd z (by decide)) (Or.inl rfl))) ((FR.put (K := 44) (i := v404.toNatClampNeg) (v := v408) klp6_1 rfl)) (by omega) (by rw [show (x_u2 F9 44 v404.toNatClampNeg v408) 63 x1.toNatClampNeg = (F9 63 x1.toNatClampNeg) from (by rw [u2_ne (by decide)]), show (x_u2 F9 44 v404.toNatClampNeg v408) 55 x1.toNatClampNeg = (F9 55 x1.toNatClampNeg) from (by rw [u2_ne (by decide)])]; omega) (by rw [show (x_u2 F9 44 v404.toNatClampNeg v408) 24 x1.toNatClampNeg = (F9 24 x1.toNatClampNeg) from (by rw [u2_ne (by decide)])]; omega) (by omega)).up (by omega)
          · skip
            refine q_goto ?_
            refine xR.blk c123_251 ?_
            refine v_iinc (k := 1) rfl rfl (by omega) (by omega) (fun v412 e413 => ?_)
            show x_seq _ _ _ _ ([.inr (.inr (8, 1)), .inl x1, .inl x2, .inl x3, .inl sjn1_0, .inl v412, .inl (F9 35 v23.toNatClampNeg), zlp6_7, zlp6_8], [], mh h F9)
            refine q_goto ?_
            exact (ih8 v412 (.inl (F9 35 v23.toNatClampNeg)) (zlp6_7) (zlp6_8) F9 (klp6_0) (klp6_1) (by omega) (by omega) (by omega) (by omega)).up (by omega)
    exact (lp6 4 v4 (.inr (.inr (0, 0))) (.inr (.inr (0, 0))) (.inr (.inr (0, 0))) F (M) (FR.rfl') (by omega) (by omega) (by omega) (by omega)).up (by omega)
  refine xR.blk c123_0 ?_
  refine q_iload rfl ?_
  refine v_iconst (k := 24) rfl (fun v414 e415 => ?_)
  refine v_idiv e415 (by decide) (by omega) (fun v416 e417 => ?_)
  refine q_iload rfl ?_
  refine v_icmp_ne (fun d418 => ?_) (fun d418 => ?_)
  · skip
    refine xR.blk c123_12 ?_
    refine v_iconst (k := 0) rfl (fun v419 e420 => ?_)
    refine q_goto ?_
    exact (jn1 v419 (by omega)).up (by omega)
  · skip
    refine v_iconst (k := 1) rfl (fun v421 e422 => ?_)
    refine q_goto ?_
    exact (jn1 v421 (by omega)).up (by omega)
theorem tv124 {h : xH} {Z : xO → xH → Prop} {F : xF} {x1 : Int32} (S : MS h) (g1 : 0 ≤ x1.toInt ∧ x1.toInt ≤ 2) (M : MX 72 F) (gJ : 0 < (F 45 x1.toNatClampNeg).toInt) (hZ : ∀ (o : xO) (F' : xF), (MX 72 F' ∧ FR F F') ∧ (o = .inl none) → Z o (mh h F')) : xC 40000 124 [.inr (.inr (8, 1)), .inl x1] (mh h F) Z := by
  refine ⟨rfl, S.2.2.1, S.2.2.2, ?_⟩
  have c1 := x_clamp g1.1
  show xR _ 124 0 ([.inr (.inr (8, 1)), .inl x1, .inr (.inr (0, 0)), .inr (.inr (0, 0)), .inr (.inr (0, 0))], [], mh h F) Z
  refine xR.blk c124_0 ?_
  refine q_aload rfl (by decide) ?_
  refine m_gfr S (n := 216) (by decide) ?_
  refine v_iconst (k := 72) rfl (fun v1 e2 => ?_)
  refine q_iload rfl ?_
  refine v_imul' e2 (by omega) (fun v3 e4 => ?_)
  refine m_ald (k := 28) (n := 216) S (by decide) (by omega) (by omega) ?_
  have e5 : 0 ≤ (F 46 v3.toNatClampNeg).toInt ∧ (F 46 v3.toNatClampNeg).toInt ≤ 71 := M.rg (lo := 0) (hi := 71) (by decide) _
  have hst : (F 47 (F 46 v3.toNatClampNeg).toNatClampNeg).toInt = 2 := by have c9 := (M.2.2.2.2.2 x1.toNatClampNeg 0 (by omega) (by omega)).1; rw [show 72 * x1.toNatClampNeg + 0 = v3.toNatClampNeg by have c8 := x_clamp (n := v3) (by omega); omega] at c9; exact c9
  have cc := x_clamp (n := (F 46 v3.toNatClampNeg)) (by omega)
  have sl : SL F (F 46 v3.toNatClampNeg).toNatClampNeg := M.2.2.2.1 _ (by omega) (by omega)
  unfold SL at sl
  refine q_istore (Nat.le_of_ble_eq_true rfl) ?_
  show x_seq _ _ _ _ ([.inr (.inr (8, 1)), .inl x1, .inl (F 46 v3.toNatClampNeg), .inr (.inr (0, 0)), .inr (.inr (0, 0))], [], mh h F)
  refine q_aload rfl (by decide) ?_
  refine q_iload rfl ?_
  refine q_callv (j := 1) rfl (by decide) ⟨Nat.le_refl 1, Nat.le_of_eq S.1.symm⟩ (Nat.le_of_ble_eq_true rfl) (Nat.le_of_ble_eq_true rfl) (by show x_ce h + 0 ≤ 0; rw [S.2.2.1]; exact Nat.le_refl 0) (by show x_so h + 0 ≤ 0; rw [S.2.2.2]; exact Nat.le_refl 0) ?_
  refine xC.up (tv102 (h := x_setc h 0 0) (F := F) (x1 := (F 46 v3.toNatClampNeg)) (e := 72) S.set (by omega) M (fun o6 F7 hp => ?_)) (by omega)
  obtain ⟨q10, rfl⟩ := hp
  have kk11 : F7 24 (F 46 v3.toNatClampNeg).toNatClampNeg = (F 24 (F 46 v3.toNatClampNeg).toNatClampNeg) := (q10.2.2 24 (F 46 v3.toNatClampNeg).toNatClampNeg (by decide) (by decide)).trans rfl
  have ki12 : (F7 24 (F 46 v3.toNatClampNeg).toNatClampNeg).toInt = (F 24 (F 46 v3.toNatClampNeg).toNatClampNeg).toInt := by rw [kk11]
  have kk13 : F7 47 (F 46 v3.toNatClampNeg).toNatClampNeg = (F 47 (F 46 v3.toNatClampNeg).toNatClampNeg) := (q10.2.2 47 (F 46 v3.toNatClampNeg).toNatClampNeg (by decide) (by decide)).trans rfl
  have ki14 : (F7 47 (F 46 v3.toNatClampNeg).toNatClampNeg).toInt = (F 47 (F 46 v3.toNatClampNeg).toNatClampNeg).toInt := by rw [kk13]
  have kk15 : F7 48 (F 46 v3.toNatClampNeg).toNatClampNeg = (F 48 (F 46 v3.toNatClampNeg).toNatClampNeg) := (q10.2.2 48 (F 46 v3.toNatClampNeg).toNatClampNeg (by decide) (by decide)).trans rfl
  have ki16 : (F7 48 (F 46 v3.toNatClampNeg).toNatClampNeg).toInt = (F 48 (F 46 v3.toNatClampNeg).toNatClampNeg).toInt := by rw [kk15]
  have kk17 : F7 55 (F 46 v3.toNatClampNeg).toNatClampNeg = (F 55 (F 46 v3.toNatClampNeg).toNatClampNeg) := (q10.2.2 55 (F 46 v3.toNatClampNeg).toNatClampNeg (by decide) (by decide)).trans rfl
  have ki18 : (F7 55 (F 46 v3.toNatClampNeg).toNatClampNeg).toInt = (F 55 (F 46 v3.toNatClampNeg).toNatClampNeg).toInt := by rw [kk17]
  have ki19 : mpop (F7 55 (F 46 v3.toNatClampNeg).toNatClampNeg).toInt = mpop (F 55 (F 46 v3.toNatClampNeg).toNatClampNeg).toInt := by rw [kk17]
  have kk20 : F7 57 (F 46 v3.toNatClampNeg).toNatClampNeg = (F 57 (F 46 v3.toNatClampNeg).toNatClampNeg) := (q10.2.2 57 (F 46 v3.toNatClampNeg).toNatClampNeg (by decide) (by decide)).trans rfl
  have ki21 : (F7 57 (F 46 v3.toNatClampNeg).toNatClampNeg).toInt = (F 57 (F 46 v3.toNatClampNeg).toNatClampNeg).toInt := by rw [kk20]
  have kk22 : F7 63 (F 46 v3.toNatClampNeg).toNatClampNeg = (F 63 (F 46 v3.toNatClampNeg).toNatClampNeg) := (q10.2.2 63 (F 46 v3.toNatClampNeg).toNatClampNeg (by decide) (by decide)).trans rfl
  have ki23 : (F7 63 (F 46 v3.toNatClampNeg).toNatClampNeg).toInt = (F 63 (F 46 v3.toNatClampNeg).toNatClampNeg).toInt := by rw [kk22]
  show x_seq _ _ _ _ ([.inr (.inr (8, 1)), .inl x1, .inl (F 46 v3.toNatClampNeg), .inr (.inr (0, 0)), .inr (.inr (0, 0))], [], mh h F7)
  have M24 : MX (F 46 v3.toNatClampNeg).toNatClampNeg F7 := q10.1.opnJ (Or.inr rfl) q10.2.1
  have e25 := M24.rg (K := 55) (lo := 0) (hi := 7) (by decide) (F 46 v3.toNatClampNeg).toNatClampNeg
  have e26 := mpop_le e25
  refine q_aload rfl (by decide) ?_
  refine q_iload rfl ?_
  refine q_iload rfl ?_
  refine q_callv (j := 1) rfl (by decide) ⟨Nat.le_refl 1, Nat.le_of_eq S.1.symm⟩ (Nat.le_of_ble_eq_true rfl) (Nat.le_of_ble_eq_true rfl) (by show x_ce h + 0 ≤ 0; rw [S.2.2.1]; exact Nat.le_refl 0) (by show x_so h + 0 ≤ 0; rw [S.2.2.2]; exact Nat.le_refl 0) ?_
  refine xC.up (tv114 (h := x_setc h 0 0) (F := F7) (x1 := (F 46 v3.toNatClampNeg)) (x2 := x1) (e := (F 46 v3.toNatClampNeg).toNatClampNeg) S.set (by omega) (by omega) M24 (fun o27 F28 hp => ?_)) (by omega)
  obtain ⟨hF31, ⟨v30, rfl, q29⟩⟩ := hp
  rw [hF31]
  show x_seq _ _ _ _ ([.inr (.inr (8, 1)), .inl x1, .inl (F 46 v3.toNatClampNeg), .inr (.inr (0, 0)), .inr (.inr (0, 0))], [.inl v30], mh h F7)
  refine q_istore (Nat.le_of_ble_eq_true rfl) ?_
  show x_seq _ _ _ _ ([.inr (.inr (8, 1)), .inl x1, .inl (F 46 v3.toNatClampNeg), .inl v30, .inr (.inr (0, 0))], [], mh h F7)
  refine q_iload rfl ?_
  refine v_if_lt (fun d32 => ?_) (fun d32 => ?_)
  · skip
    refine xR.blk c124_46 ?_
    refine q_aload rfl (by decide) ?_
    refine q_iload rfl ?_
    refine v_iconst (k := 5) rfl (fun v33 e34 => ?_)
    refine q_callv (j := 1) rfl (by decide) ⟨Nat.le_refl 1, Nat.le_of_eq S.1.symm⟩ (Nat.le_of_ble_eq_true rfl) (Nat.le_of_ble_eq_true rfl) (by show x_ce h + 0 ≤ 0; rw [S.2.2.1]; exact Nat.le_refl 0) (by show x_so h + 0 ≤ 0; rw [S.2.2.2]; exact Nat.le_refl 0) ?_
    refine xC.up (tv105 (h := x_setc h 0 0) (F := F7) (x1 := (F 46 v3.toNatClampNeg)) (x2 := v33) (e := (F 46 v3.toNatClampNeg).toNatClampNeg) S.set (by omega) M24 (Or.inl rfl) (fun o35 F36 hp => ?_)) (by omega)
    obtain ⟨q39, rfl⟩ := hp
    show x_seq _ _ _ _ ([.inr (.inr (8, 1)), .inl x1, .inl (F 46 v3.toNatClampNeg), .inl v30, .inr (.inr (0, 0))], [], mh h F36)
    refine q_goto ?_
    refine xR.blk c124_116 ?_
    exact q_ret (hZ _ _ ⟨⟨q39.1, (FR.trans (FR.trans FR.rfl' (FR.job q10.2.2)) q39.2)⟩, rfl⟩)
  · skip
    refine q_aload rfl (by decide) ?_
    refine m_gfr S (n := 72) (by decide) ?_
    refine q_iload rfl ?_
    refine m_ald (k := 30) (n := 72) S (by decide) (by omega) (by omega) ?_
    have e40 : 0 ≤ (F7 48 (F 46 v3.toNatClampNeg).toNatClampNeg).toInt ∧ (F7 48 (F 46 v3.toNatClampNeg).toNatClampNeg).toInt ≤ 5 := M24.rg (lo := 0) (hi := 5) (by decide) _
    refine q_aload rfl (by decide) ?_
    refine m_gfr S (n := 36) (by decide) ?_
    refine q_iload rfl ?_
    refine m_ald (k := 11) (n := 36) S (by decide) (by omega) (by omega) ?_
    refine q_call (Nat.le_of_ble_eq_true rfl) (Nat.le_of_ble_eq_true rfl) (by show x_ce h + 0 ≤ 0; rw [S.2.2.1]; exact Nat.le_refl 0) (by show x_so h + 0 ≤ 0; rw [S.2.2.2]; exact Nat.le_refl 0) ?_
    refine xC.up (tv95 (h := x_setc h 0 0) (F := F7) (x0 := (F7 30 v30.toNatClampNeg)) S.set  (fun o41 F42 hp => ?_)) (by omega)
    obtain ⟨hF45, ⟨v44, rfl, q43⟩⟩ := hp
    rw [hF45]
    show x_seq _ _ _ _ ([.inr (.inr (8, 1)), .inl x1, .inl (F 46 v3.toNatClampNeg), .inl v30, .inr (.inr (0, 0))], [.inl v44, .inl (F7 48 (F 46 v3.toNatClampNeg).toNatClampNeg)], mh h F7)
    refine v_iconst (k := 2) rfl (fun v46 e47 => ?_)
    refine v_iadd (by omega) (fun v48 e49 => ?_)
    refine v_icmp_ge (fun d50 => ?_) (fun d50 => ?_)
    · skip
      refine xR.blk c124_55 ?_
      refine q_aload rfl (by decide) ?_
      refine m_gfr S (n := 36) (by decide) ?_
      refine q_iload rfl ?_
      refine m_ald (k := 15) (n := 36) S (by decide) (by omega) (by omega) ?_
      refine v_if_eq (fun d51 => ?_) (fun d51 => ?_)
      · skip
        refine xR.blk c124_109 ?_
        refine q_aload rfl (by decide) ?_
        refine q_iload rfl ?_
        refine q_iload rfl ?_
        refine q_iload rfl ?_
        refine q_callv (j := 1) rfl (by decide) ⟨Nat.le_refl 1, Nat.le_of_eq S.1.symm⟩ (Nat.le_of_ble_eq_true rfl) (Nat.le_of_ble_eq_true rfl) (by show x_ce h + 0 ≤ 0; rw [S.2.2.1]; exact Nat.le_refl 0) (by show x_so h + 0 ≤ 0; rw [S.2.2.2]; exact Nat.le_refl 0) ?_
        refine xC.up (tv123 (h := x_setc h 0 0) (F := F7) (x1 := (F 46 v3.toNatClampNeg)) (x2 := x1) (x3 := v30) S.set (by omega) (by omega) (by omega) M24 (by omega) (by omega) (fun o52 F53 hp => ?_)) (by omega)
        obtain ⟨q56, rfl⟩ := hp
        show x_seq _ _ _ _ ([.inr (.inr (8, 1)), .inl x1, .inl (F 46 v3.toNatClampNeg), .inl v30, .inr (.inr (0, 0))], [], mh h F53)
        refine q_goto ?_
        refine xR.blk c124_116 ?_
        exact q_ret (hZ _ _ ⟨⟨q56.1, (FR.trans (FR.trans FR.rfl' (FR.job q10.2.2)) q56.2)⟩, rfl⟩)
      · skip
        refine v_iconst (k := 8) rfl (fun v57 e58 => ?_)
        refine q_iload rfl ?_
        refine v_imul' e58 (by omega) (fun v59 e60 => ?_)
        refine q_aload rfl (by decide) ?_
        refine m_gfr S (n := 36) (by decide) ?_
        refine q_iload rfl ?_
        refine m_ald (k := 11) (n := 36) S (by decide) (by omega) (by omega) ?_
        refine q_call (Nat.le_of_ble_eq_true rfl) (Nat.le_of_ble_eq_true rfl) (by show x_ce h + 0 ≤ 0; rw [S.2.2.1]; exact Nat.le_refl 0) (by show x_so h + 0 ≤ 0; rw [S.2.2.2]; exact Nat.le_refl 0) ?_
        refine xC.up (tv95 (h := x_setc h 0 0) (F := F7) (x0 := (F7 30 v30.toNatClampNeg)) S.set  (fun o61 F62 hp => ?_)) (by omega)
        obtain ⟨hF65, ⟨v64, rfl, q63⟩⟩ := hp
        rw [hF65]
        show x_seq _ _ _ _ ([.inr (.inr (8, 1)), .inl x1, .inl (F 46 v3.toNatClampNeg), .inl v30, .inr (.inr (0, 0))], [.inl v64, .inl v59], mh h F7)
        refine v_iadd (by omega) (fun v66 e67 => ?_)
        refine q_istore (Nat.le_of_ble_eq_true rfl) ?_
        show x_seq _ _ _ _ ([.inr (.inr (8, 1)), .inl x1, .inl (F 46 v3.toNatClampNeg), .inl v30, .inl v66], [], mh h F7)
        refine q_aload rfl (by decide) ?_
        refine q_iload rfl ?_
        refine q_iload rfl ?_
        refine v_iconst (k := 10) rfl (fun v68 e69 => ?_)
        refine q_aload rfl (by decide) ?_
        refine m_gfr S (n := 576) (by decide) ?_
        refine q_iload rfl ?_
        refine m_ald (k := 31) (n := 576) S (by decide) (by omega) (by omega) ?_
        have e70 : 0 ≤ (F7 49 v66.toNatClampNeg).toInt ∧ (F7 49 v66.toNatClampNeg).toInt ≤ 9 := M24.rg (lo := 0) (hi := 9) (by decide) _
        refine v_imul' e69 (by omega) (fun v71 e72 => ?_)
        refine q_aload rfl (by decide) ?_
        refine m_gfr S (n := 576) (by decide) ?_
        refine q_iload rfl ?_
        refine v_iconst (k := 1) rfl (fun v73 e74 => ?_)
        refine v_iadd (by omega) (fun v75 e76 => ?_)
        refine m_ald (k := 31) (n := 576) S (by decide) (by omega) (by omega) ?_
        have e77 : 0 ≤ (F7 49 v75.toNatClampNeg).toInt ∧ (F7 49 v75.toNatClampNeg).toInt ≤ 9 := M24.rg (lo := 0) (hi := 9) (by decide) _
        refine v_iadd (by omega) (fun v78 e79 => ?_)
        refine q_callv (j := 1) rfl (by decide) ⟨Nat.le_refl 1, Nat.le_of_eq S.1.symm⟩ (Nat.le_of_ble_eq_true rfl) (Nat.le_of_ble_eq_true rfl) (by show x_ce h + 0 ≤ 0; rw [S.2.2.1]; exact Nat.le_refl 0) (by show x_so h + 0 ≤ 0; rw [S.2.2.2]; exact Nat.le_refl 0) ?_
        refine xC.up (tv121 (h := x_setc h 0 0) (F := F7) (x1 := (F 46 v3.toNatClampNeg)) (x2 := x1) (x3 := v78) S.set (by omega) (by omega) (by omega) M24 (by omega) (by omega) (fun o80 F81 hp => ?_)) (by omega)
        obtain ⟨q84, rfl⟩ := hp
        show x_seq _ _ _ _ ([.inr (.inr (8, 1)), .inl x1, .inl (F 46 v3.toNatClampNeg), .inl v30, .inl v66], [], mh h F81)
        refine q_goto ?_
        refine xR.blk c124_116 ?_
        exact q_ret (hZ _ _ ⟨⟨q84.1, (FR.trans (FR.trans FR.rfl' (FR.job q10.2.2)) q84.2)⟩, rfl⟩)
    · skip
      refine q_goto ?_
      refine xR.blk c124_46 ?_
      refine q_aload rfl (by decide) ?_
      refine q_iload rfl ?_
      refine v_iconst (k := 5) rfl (fun v85 e86 => ?_)
      refine q_callv (j := 1) rfl (by decide) ⟨Nat.le_refl 1, Nat.le_of_eq S.1.symm⟩ (Nat.le_of_ble_eq_true rfl) (Nat.le_of_ble_eq_true rfl) (by show x_ce h + 0 ≤ 0; rw [S.2.2.1]; exact Nat.le_refl 0) (by show x_so h + 0 ≤ 0; rw [S.2.2.2]; exact Nat.le_refl 0) ?_
      refine xC.up (tv105 (h := x_setc h 0 0) (F := F7) (x1 := (F 46 v3.toNatClampNeg)) (x2 := v85) (e := (F 46 v3.toNatClampNeg).toNatClampNeg) S.set (by omega) M24 (Or.inl rfl) (fun o87 F88 hp => ?_)) (by omega)
      obtain ⟨q91, rfl⟩ := hp
      show x_seq _ _ _ _ ([.inr (.inr (8, 1)), .inl x1, .inl (F 46 v3.toNatClampNeg), .inl v30, .inr (.inr (0, 0))], [], mh h F88)
      refine q_goto ?_
      refine xR.blk c124_116 ?_
      exact q_ret (hZ _ _ ⟨⟨q91.1, (FR.trans (FR.trans FR.rfl' (FR.job q10.2.2)) q91.2)⟩, rfl⟩)
theorem tv125 {h : xH} {Z : xO → xH → Prop} {F : xF} {x1 : Int32} {x2 : Int32} (S : MS h) (g1 : 0 ≤ x1.toInt ∧ x1.toInt ≤ 2) (g2 : 0 ≤ x2.toInt ∧ x2.toInt ≤ 2) (M : MX 72 F) (hZ : ∀ (o : xO) (F' : xF), (MX 72 F' ∧ FR F F') ∧ (o = .inl none) → Z o (mh h F')) : xC 1000 125 [.inr (.inr (8, 1)), .inl x1, .inl x2] (mh h F) Z := by
  refine ⟨rfl, S.2.2.1, S.2.2.2, ?_⟩
  show xR _ 125 0 ([.inr (.inr (8, 1)), .inl x1, .inl x2, .inr (.inr (0, 0))], [], mh h F) Z
  refine xR.blk c125_0 ?_
  refine q_aload rfl (by decide) ?_
  refine m_gfr S (n := 9) (by decide) ?_
  refine v_iconst (k := 3) rfl (fun v1 e2 => ?_)
  refine q_iload rfl ?_
  refine v_imul' e2 (by omega) (fun v3 e4 => ?_)
  refine q_iload rfl ?_
  refine v_iadd (by omega) (fun v5 e6 => ?_)
  refine m_ald (k := 19) (n := 9) S (by decide) (by omega) (by omega) ?_
  have e7 : -1 ≤ (F 38 v5.toNatClampNeg).toInt ∧ (F 38 v5.toNatClampNeg).toInt ≤ 71 := M.rg (lo := -1) (hi := 71) (by decide) _
  refine q_istore (Nat.le_of_ble_eq_true rfl) ?_
  show x_seq _ _ _ _ ([.inr (.inr (8, 1)), .inl x1, .inl x2, .inl (F 38 v5.toNatClampNeg)], [], mh h F)
  refine q_iload rfl ?_
  refine v_if_lt (fun d8 => ?_) (fun d8 => ?_)
  · skip
    refine xR.blk c125_45 ?_
    exact q_ret (hZ _ _ ⟨⟨M, FR.rfl'⟩, rfl⟩)
  · skip
    refine q_aload rfl (by decide) ?_
    refine m_gfr S (n := 72) (by decide) ?_
    refine q_iload rfl ?_
    refine m_ald (k := 29) (n := 72) S (by decide) (by omega) (by omega) ?_
    have e9 : 0 ≤ (F 47 (F 38 v5.toNatClampNeg).toNatClampNeg).toInt ∧ (F 47 (F 38 v5.toNatClampNeg).toNatClampNeg).toInt ≤ 5 := M.rg (lo := 0) (hi := 5) (by decide) _
    refine v_iconst (k := 3) rfl (fun v10 e11 => ?_)
    refine v_icmp_ne (fun d12 => ?_) (fun d12 => ?_)
    · skip
      refine xR.blk c125_45 ?_
      exact q_ret (hZ _ _ ⟨⟨M, FR.rfl'⟩, rfl⟩)
    · skip
      refine q_aload rfl (by decide) ?_
      refine m_gfr S (n := 72) (by decide) ?_
      refine q_iload rfl ?_
      refine m_ald (k := 32) (n := 72) S (by decide) (by omega) (by omega) ?_
      refine q_iload rfl ?_
      refine v_icmp_ne (fun d13 => ?_) (fun d13 => ?_)
      · skip
        refine xR.blk c125_45 ?_
        exact q_ret (hZ _ _ ⟨⟨M, FR.rfl'⟩, rfl⟩)
      · skip
        refine q_aload rfl (by decide) ?_
        refine m_gfr S (n := 72) (by decide) ?_
        refine q_iload rfl ?_
        refine m_ald (k := 33) (n := 72) S (by decide) (by omega) (by omega) ?_
        have e14 : 0 ≤ (F 51 (F 38 v5.toNatClampNeg).toNatClampNeg).toInt ∧ (F 51 (F 38 v5.toNatClampNeg).toNatClampNeg).toInt ≤ 2 := M.rg (lo := 0) (hi := 2) (by decide) _
        refine q_iload rfl ?_
        refine v_icmp_eq (fun d15 => ?_) (fun d15 => ?_)
        · skip
          have cc18 := x_clamp (n := (F 38 v5.toNatClampNeg)) (by omega)
          have sl17 : SL F (F 38 v5.toNatClampNeg).toNatClampNeg := M.2.2.2.1 _ (by omega) (by omega)
          unfold SL at sl17
          have M16 : MX (F 38 v5.toNatClampNeg).toNatClampNeg F := M.opn (by omega)
          refine xR.blk c125_46 ?_
          refine q_aload rfl (by decide) ?_
          refine m_gfr S (n := 72) (by decide) ?_
          refine q_iload rfl ?_
          refine q_dup2 rfl rfl ?_
          refine m_ald (k := 34) (n := 72) S (by decide) (by omega) (by omega) ?_
          refine v_iconst (k := 1) rfl (fun v19 e20 => ?_)
          refine v_bin (fun v21 => ?_)
          refine m_ast (k := 34) (n := 72) S (by decide) (by omega) (by omega) ?_
          show x_seq _ _ _ _ ([.inr (.inr (8, 1)), .inl x1, .inl x2, .inl (F 38 v5.toNatClampNeg)], [], mh h (x_u2 F 52 (F 38 v5.toNatClampNeg).toNatClampNeg v21))
          refine q_aload rfl (by decide) ?_
          refine m_gfr S (n := 72) (by decide) ?_
          refine q_iload rfl ?_
          refine m_ald (k := 34) (n := 72) S (by decide) (by omega) (by omega) ?_
          rw [show (x_u2 F 52 (F 38 v5.toNatClampNeg).toNatClampNeg v21) 52 (F 38 v5.toNatClampNeg).toNatClampNeg = v21 from (by rw [u2_eq])]
          show x_seq _ _ _ _ ([.inr (.inr (8, 1)), .inl x1, .inl x2, .inl (F 38 v5.toNatClampNeg)], [.inl v21], mh h (x_u2 F 52 (F 38 v5.toNatClampNeg).toNatClampNeg v21))
          refine v_if_ne (fun d23 => ?_) (fun d23 => ?_)
          · skip
            refine xR.blk c125_103 ?_
            exact q_ret (hZ _ _ ⟨⟨(MX.close (MX.put (K := 52) (i := (F 38 v5.toNatClampNeg).toNatClampNeg) (v := v21) M16 (fun lo hi hm => by simp only [mrl, List.mem_cons, Prod.mk.injEq, List.not_mem_nil, or_false] at hm; omega) (by decide) (fun z => absurd z (by decide)) (Or.inl rfl)) (by unfold SL; rw [show (x_u2 F 52 (F 38 v5.toNatClampNeg).toNatClampNeg v21) 47 (F 38 v5.toNatClampNeg).toNatClampNeg = (F 47 (F 38 v5.toNatClampNeg).toNatClampNeg) from (by rw [u2_ne (by decide)]), show (x_u2 F 52 (F 38 v5.toNatClampNeg).toNatClampNeg v21) 48 (F 38 v5.toNatClampNeg).toNatClampNeg = (F 48 (F 38 v5.toNatClampNeg).toNatClampNeg) from (by rw [u2_ne (by decide)]), show (x_u2 F 52 (F 38 v5.toNatClampNeg).toNatClampNeg v21) 63 (F 38 v5.toNatClampNeg).toNatClampNeg = (F 63 (F 38 v5.toNatClampNeg).toNatClampNeg) from (by rw [u2_ne (by decide)]), show (x_u2 F 52 (F 38 v5.toNatClampNeg).toNatClampNeg v21) 55 (F 38 v5.toNatClampNeg).toNatClampNeg = (F 55 (F 38 v5.toNatClampNeg).toNatClampNeg) from (by rw [u2_ne (by decide)]), show (x_u2 F 52 (F 38 v5.toNatClampNeg).toNatClampNeg v21) 57 (F 38 v5.toNatClampNeg).toNatClampNeg = (F 57 (F 38 v5.toNatClampNeg).toNatClampNeg) from (by rw [u2_ne (by decide)]), show (x_u2 F 52 (F 38 v5.toNatClampNeg).toNatClampNeg v21) 24 (F 38 v5.toNatClampNeg).toNatClampNeg = (F 24 (F 38 v5.toNatClampNeg).toNatClampNeg) from (by rw [u2_ne (by decide)])]; exact ⟨fun z => by omega, fun z => by omega, fun z => by omega, fun z => by omega⟩)), (FR.put (K := 52) (i := (F 38 v5.toNatClampNeg).toNatClampNeg) (v := v21) FR.rfl' rfl)⟩, rfl⟩)
          · skip
            refine q_aload rfl (by decide) ?_
            refine q_iload rfl ?_
            refine v_iconst (k := 1000) rfl (fun v24 e25 => ?_)
            refine q_iload rfl ?_
            refine v_imul' e25 (by omega) (fun v26 e27 => ?_)
            refine v_iconst (k := 30) rfl (fun v28 e29 => ?_)
            refine v_iadd (by omega) (fun v30 e31 => ?_)
            refine q_iload rfl ?_
            refine v_iadd (by omega) (fun v32 e33 => ?_)
            refine q_callv (j := 1) rfl (by decide) ⟨Nat.le_refl 1, Nat.le_of_eq S.1.symm⟩ (Nat.le_of_ble_eq_true rfl) (Nat.le_of_ble_eq_true rfl) (by show x_ce h + 0 ≤ 0; rw [S.2.2.1]; exact Nat.le_refl 0) (by show x_so h + 0 ≤ 0; rw [S.2.2.2]; exact Nat.le_refl 0) ?_
            refine xC.up (tv101 (h := x_setc h 0 0) (F := (x_u2 F 52 (F 38 v5.toNatClampNeg).toNatClampNeg v21)) (x1 := (F 38 v5.toNatClampNeg)) (x2 := v32) (e := (F 38 v5.toNatClampNeg).toNatClampNeg) S.set (by omega) (by unfold VC; omega) (MX.put (K := 52) (i := (F 38 v5.toNatClampNeg).toNatClampNeg) (v := v21) M16 (fun lo hi hm => by simp only [mrl, List.mem_cons, Prod.mk.injEq, List.not_mem_nil, or_false] at hm; omega) (by decide) (fun z => absurd z (by decide)) (Or.inl rfl)) (fun o34 F35 hp => ?_)) (by omega)
            obtain ⟨q38, rfl⟩ := hp
            have kk39 : F35 24 (F 38 v5.toNatClampNeg).toNatClampNeg = (F 24 (F 38 v5.toNatClampNeg).toNatClampNeg) := (q38.2.1 24 (F 38 v5.toNatClampNeg).toNatClampNeg (by decide) (by decide) (by decide) (by decide) (by decide) (by decide)).trans (by rw [u2_ne (by decide)])
            have ki40 : (F35 24 (F 38 v5.toNatClampNeg).toNatClampNeg).toInt = (F 24 (F 38 v5.toNatClampNeg).toNatClampNeg).toInt := by rw [kk39]
            have kk41 : F35 47 (F 38 v5.toNatClampNeg).toNatClampNeg = (F 47 (F 38 v5.toNatClampNeg).toNatClampNeg) := (q38.2.1 47 (F 38 v5.toNatClampNeg).toNatClampNeg (by decide) (by decide) (by decide) (by decide) (by decide) (by decide)).trans (by rw [u2_ne (by decide)])
            have ki42 : (F35 47 (F 38 v5.toNatClampNeg).toNatClampNeg).toInt = (F 47 (F 38 v5.toNatClampNeg).toNatClampNeg).toInt := by rw [kk41]
            have kk43 : F35 48 (F 38 v5.toNatClampNeg).toNatClampNeg = (F 48 (F 38 v5.toNatClampNeg).toNatClampNeg) := (q38.2.1 48 (F 38 v5.toNatClampNeg).toNatClampNeg (by decide) (by decide) (by decide) (by decide) (by decide) (by decide)).trans (by rw [u2_ne (by decide)])
            have ki44 : (F35 48 (F 38 v5.toNatClampNeg).toNatClampNeg).toInt = (F 48 (F 38 v5.toNatClampNeg).toNatClampNeg).toInt := by rw [kk43]
            have kk45 : F35 55 (F 38 v5.toNatClampNeg).toNatClampNeg = (F 55 (F 38 v5.toNatClampNeg).toNatClampNeg) := (q38.2.1 55 (F 38 v5.toNatClampNeg).toNatClampNeg (by decide) (by decide) (by decide) (by decide) (by decide) (by decide)).trans (by rw [u2_ne (by decide)])
            have ki46 : (F35 55 (F 38 v5.toNatClampNeg).toNatClampNeg).toInt = (F 55 (F 38 v5.toNatClampNeg).toNatClampNeg).toInt := by rw [kk45]
            have ki47 : mpop (F35 55 (F 38 v5.toNatClampNeg).toNatClampNeg).toInt = mpop (F 55 (F 38 v5.toNatClampNeg).toNatClampNeg).toInt := by rw [kk45]
            have kk48 : F35 57 (F 38 v5.toNatClampNeg).toNatClampNeg = (F 57 (F 38 v5.toNatClampNeg).toNatClampNeg) := (q38.2.1 57 (F 38 v5.toNatClampNeg).toNatClampNeg (by decide) (by decide) (by decide) (by decide) (by decide) (by decide)).trans (by rw [u2_ne (by decide)])
            have ki49 : (F35 57 (F 38 v5.toNatClampNeg).toNatClampNeg).toInt = (F 57 (F 38 v5.toNatClampNeg).toNatClampNeg).toInt := by rw [kk48]
            have ki50 : (F35 63 (F 38 v5.toNatClampNeg).toNatClampNeg).toInt ≤ (F 63 (F 38 v5.toNatClampNeg).toNatClampNeg).toInt := by have c9 := q38.2.2.1; rw [show (x_u2 F 52 (F 38 v5.toNatClampNeg).toNatClampNeg v21) 63 (F 38 v5.toNatClampNeg).toNatClampNeg = (F 63 (F 38 v5.toNatClampNeg).toNatClampNeg) from (by rw [u2_ne (by decide)])] at c9; exact c9
            show x_seq _ _ _ _ ([.inr (.inr (8, 1)), .inl x1, .inl x2, .inl (F 38 v5.toNatClampNeg)], [], mh h F35)
            refine q_aload rfl (by decide) ?_
            refine m_gfr S (n := 72) (by decide) ?_
            refine q_iload rfl ?_
            refine q_aload rfl (by decide) ?_
            refine m_gfr S (n := 72) (by decide) ?_
            refine q_iload rfl ?_
            refine m_ald (k := 36) (n := 72) S (by decide) (by omega) (by omega) ?_
            have e51 : 0 ≤ (F35 54 (F 38 v5.toNatClampNeg).toNatClampNeg).toInt ∧ (F35 54 (F 38 v5.toNatClampNeg).toNatClampNeg).toInt ≤ 2 := q38.1.rg (lo := 0) (hi := 2) (by decide) _
            refine m_ast (k := 33) (n := 72) S (by decide) (by omega) (by omega) ?_
            show x_seq _ _ _ _ ([.inr (.inr (8, 1)), .inl x1, .inl x2, .inl (F 38 v5.toNatClampNeg)], [], mh h (x_u2 F35 51 (F 38 v5.toNatClampNeg).toNatClampNeg (F35 54 (F 38 v5.toNatClampNeg).toNatClampNeg)))
            refine q_aload rfl (by decide) ?_
            refine q_iload rfl ?_
            refine q_aload rfl (by decide) ?_
            refine m_gfr S (n := 72) (by decide) ?_
            refine q_iload rfl ?_
            refine m_ald (k := 35) (n := 72) S (by decide) (by omega) (by omega) ?_
            have e52 : 0 ≤ (F35 53 (F 38 v5.toNatClampNeg).toNatClampNeg).toInt ∧ (F35 53 (F 38 v5.toNatClampNeg).toNatClampNeg).toInt ≤ 2 := q38.1.rg (lo := 0) (hi := 2) (by decide) _
            show x_seq _ _ _ _ ([.inr (.inr (8, 1)), .inl x1, .inl x2, .inl (F 38 v5.toNatClampNeg)], [.inl (F35 53 (F 38 v5.toNatClampNeg).toNatClampNeg), .inl (F 38 v5.toNatClampNeg), .inr (.inr (8, 1))], mh h (x_u2 F35 51 (F 38 v5.toNatClampNeg).toNatClampNeg (F35 54 (F 38 v5.toNatClampNeg).toNatClampNeg)))
            refine q_callv (j := 1) rfl (by decide) ⟨Nat.le_refl 1, Nat.le_of_eq S.1.symm⟩ (Nat.le_of_ble_eq_true rfl) (Nat.le_of_ble_eq_true rfl) (by show x_ce h + 0 ≤ 0; rw [S.2.2.1]; exact Nat.le_refl 0) (by show x_so h + 0 ≤ 0; rw [S.2.2.2]; exact Nat.le_refl 0) ?_
            refine xC.up (tv103 (h := x_setc h 0 0) (F := (x_u2 F35 51 (F 38 v5.toNatClampNeg).toNatClampNeg (F35 54 (F 38 v5.toNatClampNeg).toNatClampNeg))) (x1 := (F 38 v5.toNatClampNeg)) (x2 := (F35 53 (F 38 v5.toNatClampNeg).toNatClampNeg)) S.set (by omega) (by omega) (MX.put (K := 51) (i := (F 38 v5.toNatClampNeg).toNatClampNeg) (v := (F35 54 (F 38 v5.toNatClampNeg).toNatClampNeg)) q38.1 (fun lo hi hm => by simp only [mrl, List.mem_cons, Prod.mk.injEq, List.not_mem_nil, or_false] at hm; omega) (by decide) (fun z => absurd z (by decide)) (Or.inl rfl)) (by rw [show (x_u2 F35 51 (F 38 v5.toNatClampNeg).toNatClampNeg (F35 54 (F 38 v5.toNatClampNeg).toNatClampNeg)) 63 (F 38 v5.toNatClampNeg).toNatClampNeg = (F35 63 (F 38 v5.toNatClampNeg).toNatClampNeg) from (by rw [u2_ne (by decide)]), show (x_u2 F35 51 (F 38 v5.toNatClampNeg).toNatClampNeg (F35 54 (F 38 v5.toNatClampNeg).toNatClampNeg)) 55 (F 38 v5.toNatClampNeg).toNatClampNeg = (F35 55 (F 38 v5.toNatClampNeg).toNatClampNeg) from (by rw [u2_ne (by decide)])]; omega) (by rw [show (x_u2 F35 51 (F 38 v5.toNatClampNeg).toNatClampNeg (F35 54 (F 38 v5.toNatClampNeg).toNatClampNeg)) 24 (F 38 v5.toNatClampNeg).toNatClampNeg = (F35 24 (F 38 v5.toNatClampNeg).toNatClampNeg) from (by rw [u2_ne (by decide)])]; omega) (fun o53 F54 hp => ?_)) (by omega)
            obtain ⟨q57, rfl⟩ := hp
            show x_seq _ _ _ _ ([.inr (.inr (8, 1)), .inl x1, .inl x2, .inl (F 38 v5.toNatClampNeg)], [], mh h F54)
            refine q_goto ?_
            refine xR.blk c125_103 ?_
            exact q_ret (hZ _ _ ⟨⟨q57.1, (FR.trans (FR.put (K := 51) (i := (F 38 v5.toNatClampNeg).toNatClampNeg) (v := (F35 54 (F 38 v5.toNatClampNeg).toNatClampNeg)) (FR.trans (FR.put (K := 52) (i := (F 38 v5.toNatClampNeg).toNatClampNeg) (v := v21) FR.rfl' rfl) (FR.rel q38.2.1)) rfl) q57.2)⟩, rfl⟩)
        · skip
          refine q_goto ?_
          refine xR.blk c125_45 ?_
          exact q_ret (hZ _ _ ⟨⟨M, FR.rfl'⟩, rfl⟩)
theorem tv126 {h : xH} {Z : xO → xH → Prop} {F : xF} {x1 : Int32} (S : MS h) (g1 : 0 ≤ x1.toInt ∧ x1.toInt ≤ 71) (M : MX 72 F) (hZ : ∀ (o : xO) (F' : xF), (MX 72 F' ∧ FR F F') ∧ (o = .inl none) → Z o (mh h F')) : xC 12000 126 [.inr (.inr (8, 1)), .inl x1] (mh h F) Z := by
  refine ⟨rfl, S.2.2.1, S.2.2.2, ?_⟩
  have c1 := x_clamp g1.1
  have sl : SL F x1.toNatClampNeg := M.2.2.2.1 _ (by omega) (by omega)
  unfold SL at sl
  show xR _ 126 0 ([.inr (.inr (8, 1)), .inl x1, .inr (.inr (0, 0))], [], mh h F) Z
  refine xR.blk c126_0 ?_
  refine q_aload rfl (by decide) ?_
  refine m_gfr S (n := 72) (by decide) ?_
  refine q_iload rfl ?_
  refine m_ald (k := 29) (n := 72) S (by decide) (by omega) (by omega) ?_
  have e1 : 0 ≤ (F 47 x1.toNatClampNeg).toInt ∧ (F 47 x1.toNatClampNeg).toInt ≤ 5 := M.rg (lo := 0) (hi := 5) (by decide) _
  refine v_iconst (k := 1) rfl (fun v2 e3 => ?_)
  refine v_icmp_ne (fun d4 => ?_) (fun d4 => ?_)
  · skip
    refine xR.blk c126_40 ?_
    refine q_aload rfl (by decide) ?_
    refine m_gfr S (n := 72) (by decide) ?_
    refine q_iload rfl ?_
    refine m_ald (k := 29) (n := 72) S (by decide) (by omega) (by omega) ?_
    have e5 : 0 ≤ (F 47 x1.toNatClampNeg).toInt ∧ (F 47 x1.toNatClampNeg).toInt ≤ 5 := M.rg (lo := 0) (hi := 5) (by decide) _
    refine v_iconst (k := 5) rfl (fun v6 e7 => ?_)
    refine v_icmp_ne (fun d8 => ?_) (fun d8 => ?_)
    · skip
      refine xR.blk c126_170 ?_
      exact q_ret (hZ _ _ ⟨⟨M, FR.rfl'⟩, rfl⟩)
    · skip
      refine q_aload rfl (by decide) ?_
      refine m_gfr S (n := 72) (by decide) ?_
      refine q_aload rfl (by decide) ?_
      refine m_gfr S (n := 72) (by decide) ?_
      refine q_iload rfl ?_
      refine m_ald (k := 39) (n := 72) S (by decide) (by omega) (by omega) ?_
      have e9 : -1 ≤ (F 57 x1.toNatClampNeg).toInt ∧ (F 57 x1.toNatClampNeg).toInt ≤ 71 := M.rg (lo := -1) (hi := 71) (by decide) _
      refine m_ald (k := 3) (n := 72) S (by decide) (by omega) (by omega) ?_
      refine v_if_eq (fun d10 => ?_) (fun d10 => ?_)
      · skip
        refine xR.blk c126_134 ?_
        refine q_aload rfl (by decide) ?_
        refine m_gfr S (n := 72) (by decide) ?_
        refine q_iload rfl ?_
        refine m_ald (k := 42) (n := 72) S (by decide) (by omega) (by omega) ?_
        refine v_if_ne (fun d11 => ?_) (fun d11 => ?_)
        · skip
          refine xR.blk c126_170 ?_
          exact q_ret (hZ _ _ ⟨⟨M, FR.rfl'⟩, rfl⟩)
        · skip
          refine q_aload rfl (by decide) ?_
          refine m_gfr S (n := 72) (by decide) ?_
          refine q_iload rfl ?_
          refine q_dup2 rfl rfl ?_
          refine m_ald (k := 44) (n := 72) S (by decide) (by omega) (by omega) ?_
          refine v_iconst (k := 1) rfl (fun v12 e13 => ?_)
          refine v_bin (fun v14 => ?_)
          refine m_ast (k := 44) (n := 72) S (by decide) (by omega) (by omega) ?_
          show x_seq _ _ _ _ ([.inr (.inr (8, 1)), .inl x1, .inr (.inr (0, 0))], [], mh h (x_u2 F 62 x1.toNatClampNeg v14))
          refine q_aload rfl (by decide) ?_
          refine m_gfr S (n := 72) (by decide) ?_
          refine q_iload rfl ?_
          refine m_ald (k := 44) (n := 72) S (by decide) (by omega) (by omega) ?_
          rw [show (x_u2 F 62 x1.toNatClampNeg v14) 62 x1.toNatClampNeg = v14 from (by rw [u2_eq])]
          show x_seq _ _ _ _ ([.inr (.inr (8, 1)), .inl x1, .inr (.inr (0, 0))], [.inl v14], mh h (x_u2 F 62 x1.toNatClampNeg v14))
          refine v_iconst (k := 12) rfl (fun v16 e17 => ?_)
          refine v_icmp_ne (fun d18 => ?_) (fun d18 => ?_)
          · skip
            refine xR.blk c126_170 ?_
            exact q_ret (hZ _ _ ⟨⟨(MX.put (K := 62) (i := x1.toNatClampNeg) (v := v14) M (fun lo hi hm => by simp only [mrl, List.mem_cons, Prod.mk.injEq, List.not_mem_nil, or_false] at hm; omega) (by decide) (fun z => absurd z (by decide)) (Or.inl rfl)), (FR.put (K := 62) (i := x1.toNatClampNeg) (v := v14) FR.rfl' rfl)⟩, rfl⟩)
          · skip
            refine q_aload rfl (by decide) ?_
            refine q_iload rfl ?_
            refine v_iconst (k := 3) rfl (fun v19 e20 => ?_)
            refine q_callv (j := 1) rfl (by decide) ⟨Nat.le_refl 1, Nat.le_of_eq S.1.symm⟩ (Nat.le_of_ble_eq_true rfl) (Nat.le_of_ble_eq_true rfl) (by show x_ce h + 0 ≤ 0; rw [S.2.2.1]; exact Nat.le_refl 0) (by show x_so h + 0 ≤ 0; rw [S.2.2.2]; exact Nat.le_refl 0) ?_
            refine xC.up (tv106 (h := x_setc h 0 0) (F := (x_u2 F 62 x1.toNatClampNeg v14)) (x1 := x1) (x2 := v19) S.set (by omega) (MX.put (K := 62) (i := x1.toNatClampNeg) (v := v14) M (fun lo hi hm => by simp only [mrl, List.mem_cons, Prod.mk.injEq, List.not_mem_nil, or_false] at hm; omega) (by decide) (fun z => absurd z (by decide)) (Or.inl rfl)) (fun o21 F22 hp => ?_)) (by omega)
            obtain ⟨q25, rfl⟩ := hp
            show x_seq _ _ _ _ ([.inr (.inr (8, 1)), .inl x1, .inr (.inr (0, 0))], [], mh h F22)
            refine q_goto ?_
            refine xR.blk c126_170 ?_
            exact q_ret (hZ _ _ ⟨⟨q25.1, (FR.trans (FR.put (K := 62) (i := x1.toNatClampNeg) (v := v14) FR.rfl' rfl) q25.2)⟩, rfl⟩)
      · skip
        refine q_aload rfl (by decide) ?_
        refine m_gfr S (n := 72) (by decide) ?_
        refine q_iload rfl ?_
        refine q_dup2 rfl rfl ?_
        refine m_ald (k := 43) (n := 72) S (by decide) (by omega) (by omega) ?_
        refine v_iconst (k := 1) rfl (fun v26 e27 => ?_)
        refine v_bin (fun v28 => ?_)
        refine m_ast (k := 43) (n := 72) S (by decide) (by omega) (by omega) ?_
        show x_seq _ _ _ _ ([.inr (.inr (8, 1)), .inl x1, .inr (.inr (0, 0))], [], mh h (x_u2 F 61 x1.toNatClampNeg v28))
        refine q_aload rfl (by decide) ?_
        refine m_gfr S (n := 36) (by decide) ?_
        refine q_aload rfl (by decide) ?_
        refine m_gfr S (n := 72) (by decide) ?_
        refine q_iload rfl ?_
        refine m_ald (k := 40) (n := 72) S (by decide) (by omega) (by omega) ?_
        have e30 : 0 ≤ (F 58 x1.toNatClampNeg).toInt ∧ (F 58 x1.toNatClampNeg).toInt ≤ 35 := M.rg (lo := 0) (hi := 35) (by decide) _
        show x_seq _ _ _ _ ([.inr (.inr (8, 1)), .inl x1, .inr (.inr (0, 0))], [.inl (F 58 x1.toNatClampNeg), .inr (.inr (32, 1))], mh h (x_u2 F 61 x1.toNatClampNeg v28))
        refine m_ald (k := 13) (n := 36) S (by decide) (by omega) (by omega) ?_
        show x_seq _ _ _ _ ([.inr (.inr (8, 1)), .inl x1, .inr (.inr (0, 0))], [.inl (F 32 (F 58 x1.toNatClampNeg).toNatClampNeg)], mh h (x_u2 F 61 x1.toNatClampNeg v28))
        refine q_istore (Nat.le_of_ble_eq_true rfl) ?_
        show x_seq _ _ _ _ ([.inr (.inr (8, 1)), .inl x1, .inl (F 32 (F 58 x1.toNatClampNeg).toNatClampNeg)], [], mh h (x_u2 F 61 x1.toNatClampNeg v28))
        refine q_iload rfl ?_
        refine v_if_le (fun d31 => ?_) (fun d31 => ?_)
        · skip
          refine xR.blk c126_131 ?_
          refine q_goto ?_
          refine xR.blk c126_170 ?_
          exact q_ret (hZ _ _ ⟨⟨(MX.put (K := 61) (i := x1.toNatClampNeg) (v := v28) M (fun lo hi hm => by simp only [mrl, List.mem_cons, Prod.mk.injEq, List.not_mem_nil, or_false] at hm; omega) (by decide) (fun z => absurd z (by decide)) (Or.inl rfl)), (FR.put (K := 61) (i := x1.toNatClampNeg) (v := v28) FR.rfl' rfl)⟩, rfl⟩)
        · skip
          refine q_aload rfl (by decide) ?_
          refine m_gfr S (n := 72) (by decide) ?_
          refine q_iload rfl ?_
          refine m_ald (k := 43) (n := 72) S (by decide) (by omega) (by omega) ?_
          rw [show (x_u2 F 61 x1.toNatClampNeg v28) 61 x1.toNatClampNeg = v28 from (by rw [u2_eq])]
          show x_seq _ _ _ _ ([.inr (.inr (8, 1)), .inl x1, .inl (F 32 (F 58 x1.toNatClampNeg).toNatClampNeg)], [.inl v28], mh h (x_u2 F 61 x1.toNatClampNeg v28))
          refine q_iload rfl ?_
          refine v_icmp_lt (fun d32 => ?_) (fun d32 => ?_)
          · skip
            refine xR.blk c126_131 ?_
            refine q_goto ?_
            refine xR.blk c126_170 ?_
            exact q_ret (hZ _ _ ⟨⟨(MX.put (K := 61) (i := x1.toNatClampNeg) (v := v28) M (fun lo hi hm => by simp only [mrl, List.mem_cons, Prod.mk.injEq, List.not_mem_nil, or_false] at hm; omega) (by decide) (fun z => absurd z (by decide)) (Or.inl rfl)), (FR.put (K := 61) (i := x1.toNatClampNeg) (v := v28) FR.rfl' rfl)⟩, rfl⟩)
          · skip
            refine q_aload rfl (by decide) ?_
            refine m_gfr S (n := 72) (by decide) ?_
            refine q_iload rfl ?_
            refine v_iconst (k := 0) rfl (fun v33 e34 => ?_)
            refine m_ast (k := 43) (n := 72) S (by decide) (by omega) (by omega) ?_
            show x_seq _ _ _ _ ([.inr (.inr (8, 1)), .inl x1, .inl (F 32 (F 58 x1.toNatClampNeg).toNatClampNeg)], [], mh h (x_u2 (x_u2 F 61 x1.toNatClampNeg v28) 61 x1.toNatClampNeg v33))
            refine q_aload rfl (by decide) ?_
            refine m_gfr S (n := 72) (by decide) ?_
            refine q_iload rfl ?_
            refine q_aload rfl (by decide) ?_
            refine m_gfr S (n := 72) (by decide) ?_
            refine q_iload rfl ?_
            refine m_ald (k := 6) (n := 72) S (by decide) (by omega) (by omega) ?_
            show x_seq _ _ _ _ ([.inr (.inr (8, 1)), .inl x1, .inl (F 32 (F 58 x1.toNatClampNeg).toNatClampNeg)], [.inl (F 25 x1.toNatClampNeg), .inl x1, .inr (.inr (25, 1))], mh h (x_u2 (x_u2 F 61 x1.toNatClampNeg v28) 61 x1.toNatClampNeg v33))
            refine q_aload rfl (by decide) ?_
            refine m_gfr S (n := 36) (by decide) ?_
            refine q_aload rfl (by decide) ?_
            refine m_gfr S (n := 72) (by decide) ?_
            refine q_iload rfl ?_
            refine m_ald (k := 40) (n := 72) S (by decide) (by omega) (by omega) ?_
            have e35 : 0 ≤ (F 58 x1.toNatClampNeg).toInt ∧ (F 58 x1.toNatClampNeg).toInt ≤ 35 := M.rg (lo := 0) (hi := 35) (by decide) _
            show x_seq _ _ _ _ ([.inr (.inr (8, 1)), .inl x1, .inl (F 32 (F 58 x1.toNatClampNeg).toNatClampNeg)], [.inl (F 58 x1.toNatClampNeg), .inr (.inr (31, 1)), .inl (F 25 x1.toNatClampNeg), .inl x1, .inr (.inr (25, 1))], mh h (x_u2 (x_u2 F 61 x1.toNatClampNeg v28) 61 x1.toNatClampNeg v33))
            refine m_ald (k := 12) (n := 36) S (by decide) (by omega) (by omega) ?_
            show x_seq _ _ _ _ ([.inr (.inr (8, 1)), .inl x1, .inl (F 32 (F 58 x1.toNatClampNeg).toNatClampNeg)], [.inl (F 31 (F 58 x1.toNatClampNeg).toNatClampNeg), .inl (F 25 x1.toNatClampNeg), .inl x1, .inr (.inr (25, 1))], mh h (x_u2 (x_u2 F 61 x1.toNatClampNeg v28) 61 x1.toNatClampNeg v33))
            refine v_bin (fun v36 => ?_)
            refine m_ast (k := 6) (n := 72) S (by decide) (by omega) (by omega) ?_
            show x_seq _ _ _ _ ([.inr (.inr (8, 1)), .inl x1, .inl (F 32 (F 58 x1.toNatClampNeg).toNatClampNeg)], [], mh h (x_u2 (x_u2 (x_u2 F 61 x1.toNatClampNeg v28) 61 x1.toNatClampNeg v33) 25 x1.toNatClampNeg v36))
            refine q_goto ?_
            refine xR.blk c126_131 ?_
            refine q_goto ?_
            refine xR.blk c126_170 ?_
            exact q_ret (hZ _ _ ⟨⟨(MX.put (K := 25) (i := x1.toNatClampNeg) (v := v36) (MX.put (K := 61) (i := x1.toNatClampNeg) (v := v33) (MX.put (K := 61) (i := x1.toNatClampNeg) (v := v28) M (fun lo hi hm => by simp only [mrl, List.mem_cons, Prod.mk.injEq, List.not_mem_nil, or_false] at hm; omega) (by decide) (fun z => absurd z (by decide)) (Or.inl rfl)) (fun lo hi hm => by simp only [mrl, List.mem_cons, Prod.mk.injEq, List.not_mem_nil, or_false] at hm; omega) (by decide) (fun z => absurd z (by decide)) (Or.inl rfl)) (fun lo hi hm => by simp only [mrl, List.mem_cons, Prod.mk.injEq, List.not_mem_nil, or_false] at hm; omega) (by decide) (fun z => absurd z (by decide)) (Or.inl rfl)), (FR.put (K := 25) (i := x1.toNatClampNeg) (v := v36) (FR.put (K := 61) (i := x1.toNatClampNeg) (v := v33) (FR.put (K := 61) (i := x1.toNatClampNeg) (v := v28) FR.rfl' rfl) rfl) rfl)⟩, rfl⟩)
  · skip
    refine q_aload rfl (by decide) ?_
    refine m_gfr S (n := 72) (by decide) ?_
    refine q_iload rfl ?_
    refine q_dup2 rfl rfl ?_
    refine m_ald (k := 38) (n := 72) S (by decide) (by omega) (by omega) ?_
    refine v_iconst (k := 1) rfl (fun v38 e39 => ?_)
    refine v_bin (fun v40 => ?_)
    refine m_ast (k := 38) (n := 72) S (by decide) (by omega) (by omega) ?_
    show x_seq _ _ _ _ ([.inr (.inr (8, 1)), .inl x1, .inr (.inr (0, 0))], [], mh h (x_u2 F 56 x1.toNatClampNeg v40))
    refine q_aload rfl (by decide) ?_
    refine m_gfr S (n := 72) (by decide) ?_
    refine q_iload rfl ?_
    refine m_ald (k := 38) (n := 72) S (by decide) (by omega) (by omega) ?_
    rw [show (x_u2 F 56 x1.toNatClampNeg v40) 56 x1.toNatClampNeg = v40 from (by rw [u2_eq])]
    show x_seq _ _ _ _ ([.inr (.inr (8, 1)), .inl x1, .inr (.inr (0, 0))], [.inl v40], mh h (x_u2 F 56 x1.toNatClampNeg v40))
    refine v_iconst (k := 20) rfl (fun v42 e43 => ?_)
    refine v_icmp_ne (fun d44 => ?_) (fun d44 => ?_)
    · skip
      refine xR.blk c126_170 ?_
      exact q_ret (hZ _ _ ⟨⟨(MX.put (K := 56) (i := x1.toNatClampNeg) (v := v40) M (fun lo hi hm => by simp only [mrl, List.mem_cons, Prod.mk.injEq, List.not_mem_nil, or_false] at hm; omega) (by decide) (fun z => absurd z (by decide)) (Or.inl rfl)), (FR.put (K := 56) (i := x1.toNatClampNeg) (v := v40) FR.rfl' rfl)⟩, rfl⟩)
    · skip
      refine q_aload rfl (by decide) ?_
      refine q_iload rfl ?_
      refine v_iconst (k := 3) rfl (fun v45 e46 => ?_)
      refine q_callv (j := 1) rfl (by decide) ⟨Nat.le_refl 1, Nat.le_of_eq S.1.symm⟩ (Nat.le_of_ble_eq_true rfl) (Nat.le_of_ble_eq_true rfl) (by show x_ce h + 0 ≤ 0; rw [S.2.2.1]; exact Nat.le_refl 0) (by show x_so h + 0 ≤ 0; rw [S.2.2.2]; exact Nat.le_refl 0) ?_
      refine xC.up (tv105 (h := x_setc h 0 0) (F := (x_u2 F 56 x1.toNatClampNeg v40)) (x1 := x1) (x2 := v45) (e := 72) S.set (by omega) (MX.put (K := 56) (i := x1.toNatClampNeg) (v := v40) M (fun lo hi hm => by simp only [mrl, List.mem_cons, Prod.mk.injEq, List.not_mem_nil, or_false] at hm; omega) (by decide) (fun z => absurd z (by decide)) (Or.inl rfl)) (Or.inr rfl) (fun o47 F48 hp => ?_)) (by omega)
      obtain ⟨q51, rfl⟩ := hp
      show x_seq _ _ _ _ ([.inr (.inr (8, 1)), .inl x1, .inr (.inr (0, 0))], [], mh h F48)
      refine q_goto ?_
      refine xR.blk c126_170 ?_
      exact q_ret (hZ _ _ ⟨⟨q51.1, (FR.trans (FR.put (K := 56) (i := x1.toNatClampNeg) (v := v40) FR.rfl' rfl) q51.2)⟩, rfl⟩)
theorem tv127 {h : xH} {Z : xO → xH → Prop} {F : xF} {x1 : Int32} (S : MS h) (g1 : 0 ≤ x1.toInt ∧ x1.toInt ≤ 2) (M : MX 72 F) (hZ : ∀ (o : xO) (F' : xF), (MX 72 F' ∧ FR F F') ∧ (o = .inl none) → Z o (mh h F')) : xC 8000 127 [.inr (.inr (8, 1)), .inl x1] (mh h F) Z := by
  refine ⟨rfl, S.2.2.1, S.2.2.2, ?_⟩
  have c1 := x_clamp g1.1
  have hn3 := nfr_le F x1.toNatClampNeg
  show xR _ 127 0 ([.inr (.inr (8, 1)), .inl x1, .inr (.inr (0, 0)), .inr (.inr (0, 0))], [], mh h F) Z
  have lp1 : ∀ (m2 : Nat) (zlp1_2 : xV) (zlp1_3 : xV) (F4 : xF), (MX 72 F4) → (FR F F4) → nfr F4 x1.toNatClampNeg < m2 → xR (500 + 1500 * m2) 127 0 ([.inr (.inr (8, 1)), .inl x1, zlp1_2, zlp1_3], [], mh h F4) Z := by
    intro m2
    induction m2 with
    | zero => intro zlp1_2 zlp1_3 F4 klp1_0 klp1_1 kmlp1; exact absurd kmlp1 (by omega)
    | succ m2 ih3 =>
      intro zlp1_2 zlp1_3 F4 klp1_0 klp1_1 kmlp1
      rw [show 500 + 1500 * (m2 + 1) = 500 + 1500 * m2 + 1500 by omega]
      refine xR.blk c127_0 ?_
      refine q_aload rfl (by decide) ?_
      refine q_iload rfl ?_
      refine q_callv (j := 1) rfl (by decide) ⟨Nat.le_refl 1, Nat.le_of_eq S.1.symm⟩ (Nat.le_of_ble_eq_true rfl) (Nat.le_of_ble_eq_true rfl) (by show x_ce h + 0 ≤ 0; rw [S.2.2.1]; exact Nat.le_refl 0) (by show x_so h + 0 ≤ 0; rw [S.2.2.2]; exact Nat.le_refl 0) ?_
      refine xC.up (tv107 (h := x_setc h 0 0) (F := F4) (x1 := x1) S.set (by omega) (fun o5 F6 hp => ?_)) (by omega)
      obtain ⟨hF9, ⟨v8, rfl, q7⟩⟩ := hp
      rw [hF9]
      show x_seq _ _ _ _ ([.inr (.inr (8, 1)), .inl x1, zlp1_2, zlp1_3], [.inl v8], mh h F4)
      have hI := q7
      refine v_if_lt (fun d10 => ?_) (fun d10 => ?_)
      · skip
        refine xR.blk c127_82 ?_
        exact q_ret (hZ _ _ ⟨⟨klp1_0, klp1_1⟩, rfl⟩)
      · skip
        have hR : ∃ i : Nat, 3 * x1.toInt ≤ i ∧ (i : Int) ≤ 3 * x1.toInt + 2 ∧ (F4 38 i).toInt < 0 := ⟨(3 * x1.toInt + v8.toInt).toNat, by omega, by omega, hI.2.1 (by omega) _ (by omega)⟩
        refine q_aload rfl (by decide) ?_
        refine q_iload rfl ?_
        refine q_callv (j := 1) rfl (by decide) ⟨Nat.le_refl 1, Nat.le_of_eq S.1.symm⟩ (Nat.le_of_ble_eq_true rfl) (Nat.le_of_ble_eq_true rfl) (by show x_ce h + 0 ≤ 0; rw [S.2.2.1]; exact Nat.le_refl 0) (by show x_so h + 0 ≤ 0; rw [S.2.2.2]; exact Nat.le_refl 0) ?_
        refine xC.up (tv108 (h := x_setc h 0 0) (F := F4) (x1 := x1) S.set (by omega) (fun o11 F12 hp => ?_)) (by omega)
        obtain ⟨hF15, ⟨v14, rfl, q13⟩⟩ := hp
        rw [hF15]
        show x_seq _ _ _ _ ([.inr (.inr (8, 1)), .inl x1, zlp1_2, zlp1_3], [.inl v14], mh h F4)
        have hW := q13
        refine v_if_eq (fun d16 => ?_) (fun d16 => ?_)
        · skip
          refine xR.blk c127_82 ?_
          exact q_ret (hZ _ _ ⟨⟨klp1_0, klp1_1⟩, rfl⟩)
        · skip
          refine v_iconst (k := -1) rfl (fun v17 e18 => ?_)
          refine q_istore (Nat.le_of_ble_eq_true rfl) ?_
          show x_seq _ _ _ _ ([.inr (.inr (8, 1)), .inl x1, .inl v17, zlp1_3], [], mh h F4)
          refine v_iconst (k := 24) rfl (fun v19 e20 => ?_)
          refine q_iload rfl ?_
          refine v_imul' e20 (by omega) (fun v21 e22 => ?_)
          refine q_istore (Nat.le_of_ble_eq_true rfl) ?_
          show x_seq _ _ _ _ ([.inr (.inr (8, 1)), .inl x1, .inl v17, .inl v21], [], mh h F4)
          refine q_goto ?_
          have lp23 : ∀ (m24 : Nat) (ylp23_2 : Int32) (ylp23_3 : Int32), (24 * x1.toInt ≤ ylp23_3.toInt ∧ ylp23_3.toInt ≤ 24 * x1.toInt + 24) → (ylp23_2.toInt = -1 ∨ (24 * x1.toInt ≤ ylp23_2.toInt ∧ ylp23_2.toInt < 24 * x1.toInt + 24 ∧ 0 ≤ (F4 24 ylp23_2.toNatClampNeg).toInt)) → (ylp23_2.toInt = -1 → ∀ i : Nat, 24 * x1.toInt ≤ i → (i : Int) < ylp23_3.toInt → (F4 24 i).toInt < 0) → (24 * x1.toInt + 24 - ylp23_3.toInt).toNat < m24 → xR (500 + 1500 * m2 + 210 + 12 * m24) 127 23 ([.inr (.inr (8, 1)), .inl x1, .inl ylp23_2, .inl ylp23_3], [], mh h F4) Z := by
            intro m24
            induction m24 with
            | zero => intro ylp23_2 ylp23_3 klp23_0 klp23_1 klp23_2 kmlp23; exact absurd kmlp23 (by omega)
            | succ m24 ih25 =>
              intro ylp23_2 ylp23_3 klp23_0 klp23_1 klp23_2 kmlp23
              rw [show 500 + 1500 * m2 + 210 + 12 * (m24 + 1) = 500 + 1500 * m2 + 210 + 12 * m24 + 12 by omega]
              refine xR.blk c127_23 ?_
              refine q_iload rfl ?_
              refine v_iconst (k := 24) rfl (fun v26 e27 => ?_)
              refine q_iload rfl ?_
              refine v_imul' e27 (by omega) (fun v28 e29 => ?_)
              refine v_iconst (k := 24) rfl (fun v30 e31 => ?_)
              refine v_iadd (by omega) (fun v32 e33 => ?_)
              refine v_icmp_ge (fun d34 => ?_) (fun d34 => ?_)
              · skip
                refine xR.blk c127_74 ?_
                have hl0 : 0 ≤ ylp23_2.toInt := Classical.byContradiction (fun z => by obtain ⟨i, a, b, c⟩ := hW.2 (by omega); have c9 := klp23_2 (by omega) i (by omega) (by omega); omega)
                have cl := x_clamp hl0
                have sl : SL F4 ylp23_2.toNatClampNeg := klp1_0.2.2.2.1 _ (by omega) (by omega)
                unfold SL at sl
                refine q_aload rfl (by decide) ?_
                refine q_iload rfl ?_
                refine q_callv (j := 1) rfl (by decide) ⟨Nat.le_refl 1, Nat.le_of_eq S.1.symm⟩ (Nat.le_of_ble_eq_true rfl) (Nat.le_of_ble_eq_true rfl) (by show x_ce h + 0 ≤ 0; rw [S.2.2.1]; exact Nat.le_refl 0) (by show x_so h + 0 ≤ 0; rw [S.2.2.2]; exact Nat.le_refl 0) ?_
                refine xC.up (tv109 (h := x_setc h 0 0) (F := F4) (x1 := ylp23_2) S.set (by omega) klp1_0 (by omega) (by obtain ⟨i, a, b, c⟩ := hR; exact ⟨i, by omega, by omega, c⟩) (fun o35 F36 hp => ?_)) (by omega)
                obtain ⟨q39, rfl⟩ := hp
                have hdec := nfr_lt (o := x1.toNatClampNeg) (H := F4) (H' := F36) (by obtain ⟨i, a, b, c⟩ := q39.2.2; exact ⟨i, by omega, by omega, c⟩)
                show x_seq _ _ _ _ ([.inr (.inr (8, 1)), .inl x1, .inl ylp23_2, .inl ylp23_3], [], mh h F36)
                refine q_goto ?_
                exact (ih3 (.inl ylp23_2) (.inl ylp23_3) F36 (q39.1) ((FR.trans klp1_1 q39.2.1)) (by omega)).up (by omega)
              · skip
                refine q_aload rfl (by decide) ?_
                refine m_gfr S (n := 72) (by decide) ?_
                refine q_iload rfl ?_
                refine m_ald (k := 5) (n := 72) S (by decide) (by omega) (by omega) ?_
                have hI4 : ∀ j : Nat, (j : Int) = ylp23_3.toInt → F4 24 j = (F4 24 ylp23_3.toNatClampNeg) := fun j hj => congrArg (F4 24) (by have c9 := x_clamp (n := ylp23_3) (by omega); omega)
                refine v_if_lt (fun d40 => ?_) (fun d40 => ?_)
                · skip
                  refine xR.blk c127_66 ?_
                  refine q_iload rfl ?_
                  refine q_goto ?_
                  refine xR.blk c127_67 ?_
                  refine q_istore (Nat.le_of_ble_eq_true rfl) ?_
                  show x_seq _ _ _ _ ([.inr (.inr (8, 1)), .inl x1, .inl ylp23_2, .inl ylp23_3], [], mh h F4)
                  refine v_iinc (k := 1) rfl rfl (by omega) (by omega) (fun v41 e42 => ?_)
                  show x_seq _ _ _ _ ([.inr (.inr (8, 1)), .inl x1, .inl ylp23_2, .inl v41], [], mh h F4)
                  refine q_goto ?_
                  exact (ih25 ylp23_2 v41 (by omega) (by omega) (fun hz i h1 h2 => by first | (exfalso; omega) | (rcases (show (i : Int) = ylp23_3.toInt ∨ (i : Int) < ylp23_3.toInt by omega) with q9 | q9 <;> first | (rw [hI4 i q9]; omega) | exact klp23_2 hz i h1 q9)) (by omega)).up (by omega)
                · skip
                  refine q_iload rfl ?_
                  refine v_if_lt (fun d43 => ?_) (fun d43 => ?_)
                  · skip
                    refine xR.blk c127_62 ?_
                    refine q_iload rfl ?_
                    refine q_goto ?_
                    refine xR.blk c127_67 ?_
                    refine q_istore (Nat.le_of_ble_eq_true rfl) ?_
                    show x_seq _ _ _ _ ([.inr (.inr (8, 1)), .inl x1, .inl ylp23_3, .inl ylp23_3], [], mh h F4)
                    refine v_iinc (k := 1) rfl rfl (by omega) (by omega) (fun v44 e45 => ?_)
                    show x_seq _ _ _ _ ([.inr (.inr (8, 1)), .inl x1, .inl ylp23_3, .inl v44], [], mh h F4)
                    refine q_goto ?_
                    exact (ih25 ylp23_3 v44 (by omega) (by omega) (fun hz i h1 h2 => by first | (exfalso; omega) | (rcases (show (i : Int) = ylp23_3.toInt ∨ (i : Int) < ylp23_3.toInt by omega) with q9 | q9 <;> first | (rw [hI4 i q9]; omega) | exact klp23_2 hz i h1 q9)) (by omega)).up (by omega)
                  · skip
                    refine q_aload rfl (by decide) ?_
                    refine m_gfr S (n := 72) (by decide) ?_
                    refine q_iload rfl ?_
                    refine m_ald (k := 5) (n := 72) S (by decide) (by omega) (by omega) ?_
                    refine q_aload rfl (by decide) ?_
                    refine m_gfr S (n := 72) (by decide) ?_
                    refine q_iload rfl ?_
                    refine m_ald (k := 5) (n := 72) S (by decide) (by omega) (by omega) ?_
                    refine v_icmp_ge (fun d46 => ?_) (fun d46 => ?_)
                    · skip
                      refine xR.blk c127_66 ?_
                      refine q_iload rfl ?_
                      refine q_goto ?_
                      refine xR.blk c127_67 ?_
                      refine q_istore (Nat.le_of_ble_eq_true rfl) ?_
                      show x_seq _ _ _ _ ([.inr (.inr (8, 1)), .inl x1, .inl ylp23_2, .inl ylp23_3], [], mh h F4)
                      refine v_iinc (k := 1) rfl rfl (by omega) (by omega) (fun v47 e48 => ?_)
                      show x_seq _ _ _ _ ([.inr (.inr (8, 1)), .inl x1, .inl ylp23_2, .inl v47], [], mh h F4)
                      refine q_goto ?_
                      exact (ih25 ylp23_2 v47 (by omega) (by omega) (fun hz i h1 h2 => by first | (exfalso; omega) | (rcases (show (i : Int) = ylp23_3.toInt ∨ (i : Int) < ylp23_3.toInt by omega) with q9 | q9 <;> first | (rw [hI4 i q9]; omega) | exact klp23_2 hz i h1 q9)) (by omega)).up (by omega)
                    · skip
                      refine q_goto ?_
                      refine xR.blk c127_62 ?_
                      refine q_iload rfl ?_
                      refine q_goto ?_
                      refine xR.blk c127_67 ?_
                      refine q_istore (Nat.le_of_ble_eq_true rfl) ?_
                      show x_seq _ _ _ _ ([.inr (.inr (8, 1)), .inl x1, .inl ylp23_3, .inl ylp23_3], [], mh h F4)
                      refine v_iinc (k := 1) rfl rfl (by omega) (by omega) (fun v49 e50 => ?_)
                      show x_seq _ _ _ _ ([.inr (.inr (8, 1)), .inl x1, .inl ylp23_3, .inl v49], [], mh h F4)
                      refine q_goto ?_
                      exact (ih25 ylp23_3 v49 (by omega) (by omega) (fun hz i h1 h2 => by first | (exfalso; omega) | (rcases (show (i : Int) = ylp23_3.toInt ∨ (i : Int) < ylp23_3.toInt by omega) with q9 | q9 <;> first | (rw [hI4 i q9]; omega) | exact klp23_2 hz i h1 q9)) (by omega)).up (by omega)
          exact (lp23 25 v17 v21 (by omega) (by omega) (fun hz i h1 h2 => by exfalso; omega) (by omega)).up (by omega)
  exact (lp1 4 (.inr (.inr (0, 0))) (.inr (.inr (0, 0))) F (M) (FR.rfl') (by omega)).up (by omega)
theorem tv128 {h : xH} {Z : xO → xH → Prop} {F : xF}  (S : MS h) (M : MX 72 F) (hZ : ∀ (o : xO) (F' : xF), (MX 72 F' ∧ FR F F') ∧ (o = .inl none) → Z o (mh h F')) : xC 2000000 128 [.inr (.inr (8, 1))] (mh h F) Z := by
  refine ⟨rfl, S.2.2.1, S.2.2.2, ?_⟩
  show xR _ 128 0 ([.inr (.inr (8, 1)), .inr (.inr (0, 0))], [], mh h F) Z
  refine xR.blk c128_0 ?_
  refine q_aload rfl (by decide) ?_
  refine q_dup rfl ?_
  refine m_gfi S ?_
  refine v_iconst (k := 1) rfl (fun v1 e2 => ?_)
  refine v_bin (fun v3 => ?_)
  refine m_pfi S ?_
  show x_seq _ _ _ _ ([.inr (.inr (8, 1)), .inr (.inr (0, 0))], [], mh h (x_u2 F 8 1 v3))
  refine v_iconst (k := 0) rfl (fun v5 e6 => ?_)
  refine q_istore (Nat.le_of_ble_eq_true rfl) ?_
  show x_seq _ _ _ _ ([.inr (.inr (8, 1)), .inl v5], [], mh h (x_u2 F 8 1 v3))
  refine q_goto ?_
  have lp7 : ∀ (m8 : Nat) (ylp7_1 : Int32) (F10 : xF), (MX 72 F10) → (FR F F10) → (0 ≤ ylp7_1.toInt ∧ ylp7_1.toInt ≤ 3) → (3 - ylp7_1.toInt).toNat < m8 → xR (1700000 + 41000 * m8) 128 12 ([.inr (.inr (8, 1)), .inl ylp7_1], [], mh h F10) Z := by
    intro m8
    induction m8 with
    | zero => intro ylp7_1 F10 klp7_0 klp7_1 klp7_2 kmlp7; exact absurd kmlp7 (by omega)
    | succ m8 ih9 =>
      intro ylp7_1 F10 klp7_0 klp7_1 klp7_2 kmlp7
      rw [show 1700000 + 41000 * (m8 + 1) = 1700000 + 41000 * m8 + 41000 by omega]
      refine xR.blk c128_12 ?_
      refine q_iload rfl ?_
      refine v_iconst (k := 3) rfl (fun v11 e12 => ?_)
      refine v_icmp_ge (fun d13 => ?_) (fun d13 => ?_)
      · skip
        refine xR.blk c128_58 ?_
        refine v_iconst (k := 0) rfl (fun v14 e15 => ?_)
        refine q_istore (Nat.le_of_ble_eq_true rfl) ?_
        show x_seq _ _ _ _ ([.inr (.inr (8, 1)), .inl v14], [], mh h F10)
        refine q_goto ?_
        have lp16 : ∀ (m17 : Nat) (ylp16_1 : Int32) (F19 : xF), (MX 72 F19) → (FR F F19) → (0 ≤ ylp16_1.toInt ∧ ylp16_1.toInt ≤ 9) → (9 - ylp16_1.toInt).toNat < m17 → xR (1300000 + 1100 * m17) 128 60 ([.inr (.inr (8, 1)), .inl ylp16_1], [], mh h F19) Z := by
          intro m17
          induction m17 with
          | zero => intro ylp16_1 F19 klp16_0 klp16_1 klp16_2 kmlp16; exact absurd kmlp16 (by omega)
          | succ m17 ih18 =>
            intro ylp16_1 F19 klp16_0 klp16_1 klp16_2 kmlp16
            rw [show 1300000 + 1100 * (m17 + 1) = 1300000 + 1100 * m17 + 1100 by omega]
            refine xR.blk c128_60 ?_
            refine q_iload rfl ?_
            refine v_iconst (k := 9) rfl (fun v20 e21 => ?_)
            refine v_icmp_ge (fun d22 => ?_) (fun d22 => ?_)
            · skip
              refine xR.blk c128_82 ?_
              refine v_iconst (k := 0) rfl (fun v23 e24 => ?_)
              refine q_istore (Nat.le_of_ble_eq_true rfl) ?_
              show x_seq _ _ _ _ ([.inr (.inr (8, 1)), .inl v23], [], mh h F19)
              refine q_goto ?_
              have lp25 : ∀ (m26 : Nat) (ylp25_1 : Int32) (F28 : xF), (MX 72 F28) → (FR F F28) → (0 ≤ ylp25_1.toInt ∧ ylp25_1.toInt ≤ 72) → (72 - ylp25_1.toInt).toNat < m26 → xR (50000 + 13000 * m26) 128 84 ([.inr (.inr (8, 1)), .inl ylp25_1], [], mh h F28) Z := by
                intro m26
                induction m26 with
                | zero => intro ylp25_1 F28 klp25_0 klp25_1 klp25_2 kmlp25; exact absurd kmlp25 (by omega)
                | succ m26 ih27 =>
                  intro ylp25_1 F28 klp25_0 klp25_1 klp25_2 kmlp25
                  rw [show 50000 + 13000 * (m26 + 1) = 50000 + 13000 * m26 + 13000 by omega]
                  refine xR.blk c128_84 ?_
                  refine q_iload rfl ?_
                  refine v_iconst (k := 72) rfl (fun v29 e30 => ?_)
                  refine v_icmp_ge (fun d31 => ?_) (fun d31 => ?_)
                  · skip
                    refine xR.blk c128_101 ?_
                    refine v_iconst (k := 0) rfl (fun v32 e33 => ?_)
                    refine q_istore (Nat.le_of_ble_eq_true rfl) ?_
                    show x_seq _ _ _ _ ([.inr (.inr (8, 1)), .inl v32], [], mh h F28)
                    refine q_goto ?_
                    have lp34 : ∀ (m35 : Nat) (ylp34_1 : Int32) (F37 : xF), (MX 72 F37) → (FR F F37) → (0 ≤ ylp34_1.toInt ∧ ylp34_1.toInt ≤ 3) → (3 - ylp34_1.toInt).toNat < m35 → xR (100 + 9000 * m35) 128 103 ([.inr (.inr (8, 1)), .inl ylp34_1], [], mh h F37) Z := by
                      intro m35
                      induction m35 with
                      | zero => intro ylp34_1 F37 klp34_0 klp34_1 klp34_2 kmlp34; exact absurd kmlp34 (by omega)
                      | succ m35 ih36 =>
                        intro ylp34_1 F37 klp34_0 klp34_1 klp34_2 kmlp34
                        rw [show 100 + 9000 * (m35 + 1) = 100 + 9000 * m35 + 9000 by omega]
                        refine xR.blk c128_103 ?_
                        refine q_iload rfl ?_
                        refine v_iconst (k := 3) rfl (fun v38 e39 => ?_)
                        refine v_icmp_ge (fun d40 => ?_) (fun d40 => ?_)
                        · skip
                          refine xR.blk c128_119 ?_
                          exact q_ret (hZ _ _ ⟨⟨klp34_0, klp34_1⟩, rfl⟩)
                        · skip
                          refine q_aload rfl (by decide) ?_
                          refine q_iload rfl ?_
                          refine q_callv (j := 1) rfl (by decide) ⟨Nat.le_refl 1, Nat.le_of_eq S.1.symm⟩ (Nat.le_of_ble_eq_true rfl) (Nat.le_of_ble_eq_true rfl) (by show x_ce h + 0 ≤ 0; rw [S.2.2.1]; exact Nat.le_refl 0) (by show x_so h + 0 ≤ 0; rw [S.2.2.2]; exact Nat.le_refl 0) ?_
                          refine xC.up (tv127 (h := x_setc h 0 0) (F := F37) (x1 := ylp34_1) S.set (by omega) klp34_0 (fun o41 F42 hp => ?_)) (by omega)
                          obtain ⟨q45, rfl⟩ := hp
                          show x_seq _ _ _ _ ([.inr (.inr (8, 1)), .inl ylp34_1], [], mh h F42)
                          refine v_iinc (k := 1) rfl rfl (by omega) (by omega) (fun v46 e47 => ?_)
                          show x_seq _ _ _ _ ([.inr (.inr (8, 1)), .inl v46], [], mh h F42)
                          refine q_goto ?_
                          exact (ih36 v46 F42 (q45.1) ((FR.trans klp34_1 q45.2)) (by omega) (by omega)).up (by omega)
                    exact (lp34 4 v32 F28 (klp25_0) (klp25_1) (by omega) (by omega)).up (by omega)
                  · skip
                    refine q_aload rfl (by decide) ?_
                    refine q_iload rfl ?_
                    refine q_callv (j := 1) rfl (by decide) ⟨Nat.le_refl 1, Nat.le_of_eq S.1.symm⟩ (Nat.le_of_ble_eq_true rfl) (Nat.le_of_ble_eq_true rfl) (by show x_ce h + 0 ≤ 0; rw [S.2.2.1]; exact Nat.le_refl 0) (by show x_so h + 0 ≤ 0; rw [S.2.2.2]; exact Nat.le_refl 0) ?_
                    refine xC.up (tv126 (h := x_setc h 0 0) (F := F28) (x1 := ylp25_1) S.set (by omega) klp25_0 (fun o48 F49 hp => ?_)) (by omega)
                    obtain ⟨q52, rfl⟩ := hp
                    show x_seq _ _ _ _ ([.inr (.inr (8, 1)), .inl ylp25_1], [], mh h F49)
                    refine v_iinc (k := 1) rfl rfl (by omega) (by omega) (fun v53 e54 => ?_)
                    show x_seq _ _ _ _ ([.inr (.inr (8, 1)), .inl v53], [], mh h F49)
                    refine q_goto ?_
                    exact (ih27 v53 F49 (q52.1) ((FR.trans klp25_1 q52.2)) (by omega) (by omega)).up (by omega)
              exact (lp25 73 v23 F19 (klp16_0) (klp16_1) (by omega) (by omega)).up (by omega)
            · skip
              refine q_aload rfl (by decide) ?_
              refine q_iload rfl ?_
              refine v_iconst (k := 3) rfl (fun v55 e56 => ?_)
              refine v_idiv e56 (by decide) (by omega) (fun v57 e58 => ?_)
              refine q_iload rfl ?_
              refine v_iconst (k := 3) rfl (fun v59 e60 => ?_)
              refine v_irem e60 (by decide) (by omega) (fun v61 e62 => ?_)
              refine q_callv (j := 1) rfl (by decide) ⟨Nat.le_refl 1, Nat.le_of_eq S.1.symm⟩ (Nat.le_of_ble_eq_true rfl) (Nat.le_of_ble_eq_true rfl) (by show x_ce h + 0 ≤ 0; rw [S.2.2.1]; exact Nat.le_refl 0) (by show x_so h + 0 ≤ 0; rw [S.2.2.2]; exact Nat.le_refl 0) ?_
              refine xC.up (tv125 (h := x_setc h 0 0) (F := F19) (x1 := v57) (x2 := v61) S.set (by omega) (by omega) klp16_0 (fun o63 F64 hp => ?_)) (by omega)
              obtain ⟨q67, rfl⟩ := hp
              show x_seq _ _ _ _ ([.inr (.inr (8, 1)), .inl ylp16_1], [], mh h F64)
              refine v_iinc (k := 1) rfl rfl (by omega) (by omega) (fun v68 e69 => ?_)
              show x_seq _ _ _ _ ([.inr (.inr (8, 1)), .inl v68], [], mh h F64)
              refine q_goto ?_
              exact (ih18 v68 F64 (q67.1) ((FR.trans klp16_1 q67.2)) (by omega) (by omega)).up (by omega)
        exact (lp16 10 v14 F10 (klp7_0) (klp7_1) (by omega) (by omega)).up (by omega)
      · skip
        refine q_aload rfl (by decide) ?_
        refine m_gfr S (n := 3) (by decide) ?_
        refine q_iload rfl ?_
        refine m_ald (k := 27) (n := 3) S (by decide) (by omega) (by omega) ?_
        have e70 : 0 ≤ (F10 45 ylp7_1.toNatClampNeg).toInt ∧ (F10 45 ylp7_1.toNatClampNeg).toInt ≤ 72 := klp7_0.rg (lo := 0) (hi := 72) (by decide) _
        refine v_if_le (fun d71 => ?_) (fun d71 => ?_)
        · skip
          refine xR.blk c128_52 ?_
          refine v_iinc (k := 1) rfl rfl (by omega) (by omega) (fun v72 e73 => ?_)
          show x_seq _ _ _ _ ([.inr (.inr (8, 1)), .inl v72], [], mh h F10)
          refine q_goto ?_
          exact (ih9 v72 F10 (klp7_0) (klp7_1) (by omega) (by omega)).up (by omega)
        · skip
          refine q_aload rfl (by decide) ?_
          refine m_gfr S (n := 72) (by decide) ?_
          refine q_aload rfl (by decide) ?_
          refine m_gfr S (n := 216) (by decide) ?_
          refine v_iconst (k := 72) rfl (fun v74 e75 => ?_)
          refine q_iload rfl ?_
          refine v_imul' e75 (by omega) (fun v76 e77 => ?_)
          refine m_ald (k := 28) (n := 216) S (by decide) (by omega) (by omega) ?_
          have e78 : 0 ≤ (F10 46 v76.toNatClampNeg).toInt ∧ (F10 46 v76.toNatClampNeg).toInt ≤ 71 := klp7_0.rg (lo := 0) (hi := 71) (by decide) _
          refine m_ald (k := 41) (n := 72) S (by decide) (by omega) (by omega) ?_
          refine q_aload rfl (by decide) ?_
          refine m_gfi S ?_
          refine v_icmp_ge (fun d79 => ?_) (fun d79 => ?_)
          · skip
            refine xR.blk c128_52 ?_
            refine v_iinc (k := 1) rfl rfl (by omega) (by omega) (fun v80 e81 => ?_)
            show x_seq _ _ _ _ ([.inr (.inr (8, 1)), .inl v80], [], mh h F10)
            refine q_goto ?_
            exact (ih9 v80 F10 (klp7_0) (klp7_1) (by omega) (by omega)).up (by omega)
          · skip
            refine q_aload rfl (by decide) ?_
            refine q_iload rfl ?_
            refine q_callv (j := 1) rfl (by decide) ⟨Nat.le_refl 1, Nat.le_of_eq S.1.symm⟩ (Nat.le_of_ble_eq_true rfl) (Nat.le_of_ble_eq_true rfl) (by show x_ce h + 0 ≤ 0; rw [S.2.2.1]; exact Nat.le_refl 0) (by show x_so h + 0 ≤ 0; rw [S.2.2.2]; exact Nat.le_refl 0) ?_
            refine xC.up (tv124 (h := x_setc h 0 0) (F := F10) (x1 := ylp7_1) S.set (by omega) klp7_0 (by omega) (fun o82 F83 hp => ?_)) (by omega)
            obtain ⟨q86, rfl⟩ := hp
            show x_seq _ _ _ _ ([.inr (.inr (8, 1)), .inl ylp7_1], [], mh h F83)
            refine q_goto ?_
            refine xR.blk c128_52 ?_
            refine v_iinc (k := 1) rfl rfl (by omega) (by omega) (fun v87 e88 => ?_)
            show x_seq _ _ _ _ ([.inr (.inr (8, 1)), .inl v87], [], mh h F83)
            refine q_goto ?_
            exact (ih9 v87 F83 (q86.1) ((FR.trans klp7_1 q86.2)) (by omega) (by omega)).up (by omega)
  exact (lp7 4 v5 (x_u2 F 8 1 v3) ((MX.putf (k := 1) (v := v3) M (fun lo hi hm => by simp only [mfl, List.mem_cons, Prod.mk.injEq, List.not_mem_nil, or_false] at hm; omega))) ((FR.put (K := 8) (i := 1) (v := v3) FR.rfl' rfl)) (by omega) (by omega)).up (by omega)
