theorem tv112 {h : xH} {Z : xO → xH → Prop} {F : xF} {x1 x2 : Int32} (S : MS h) (g1 : 0 ≤ x1.toInt ∧ x1.toInt ≤ 71) (hZ : ∀ (o : xO) (F' : xF), F' = F ∧ (∃ v : Int32, o = .inl (some (.inl v)) ∧ ((0 ≤ v.toInt ∧ v.toInt ≤ 1) ∧ (v.toInt = 1 ↔ FT F x1.toNatClampNeg x2 = true))) → Z o (mh h F')) : xC 100 112 [.inr (.inr (8, 1)), .inl x1, .inl x2] (mh h F) Z := by
  have c1 := x_clamp g1.1
  refine ⟨rfl, S.2.2.1, S.2.2.2, ?_⟩
  have lp : ∀ (m : Nat) (n p s k : Int32), (0 ≤ s.toInt ∧ s.toInt ≤ 1) → (-1 ≤ k.toInt ∧ k.toInt ≤ 2) → k.toInt + 1 = m → ftl F x1.toNatClampNeg m p (decide (s.toInt = 1)) = FT F x1.toNatClampNeg x2 → xR (10 + 8 * m) 112 30 ([.inr (.inr (8, 1)), .inl x1, .inl x2, .inl n, .inl p, .inl s, .inl k], [], mh h F) Z := by
    intro m
    induction m with
    | zero =>
      intro n p s k hs hk hm hf
      refine xR.blk c112_30 ?_
      refine q_iload rfl (v_if_lt (fun d => ?_) (fun d => by exfalso; omega))
      refine xR.blk c112_80 (q_iload rfl (q_zret (i32_01 hs) (hZ _ _ ⟨rfl, _, rfl, hs, ?_⟩)))
      rw [← hf]
      show _ ↔ decide (s.toInt = 1) = true
      rw [decide_eq_true_iff]
    | succ m ih =>
      intro n p s k hs hk hm hf
      rw [show 10 + 8 * (m + 1) = 10 + 8 * m + 8 by omega]
      have hst : ∀ (t : Int32), (0 ≤ t.toInt ∧ t.toInt ≤ 1) → decide (t.toInt = 1) = (decide (s.toInt = 1) && (F 49 (8 * x1.toNatClampNeg + m) == p - p / 10 * 10)) → xR (10 + 8 * m + 4) 112 65 ([.inr (.inr (8, 1)), .inl x1, .inl x2, .inl n, .inl p, .inl s, .inl k], [.inl t], mh h F) Z := by
        intro t ht hd
        refine xR.blk c112_65 ?_
        refine q_istore (Nat.le_of_ble_eq_true rfl) (q_iload rfl (q_iconst (q_idiv (by decide) (q_istore (Nat.le_of_ble_eq_true rfl) (v_iinc (k := -1) rfl rfl (by omega) (by omega) (fun k2 e2 => ?_))))))
        refine q_goto ?_
        refine (ih n (p / 10) t k2 ht (by omega) (by omega) ?_).up (by omega)
        rw [hd, ← hf]
        rfl
      refine xR.blk c112_30 ?_
      refine q_iload rfl (v_if_lt (fun d => by exfalso; omega) (fun d => ?_))
      refine q_iload rfl (v_if_eq (fun d2 => ?_) (fun d2 => ?_))
      · refine xR.up (xR.blk c112_64 (q_iconst (q_goto (hst 0 (by decide) ?_)))) (by omega)
        rw [show decide (s.toInt = 1) = false from decide_eq_false (by omega)]
        rfl
      · refine q_aload rfl (by decide) (m_gfr S (n := 576) (by decide) ?_)
        refine v_iconst (k := 8) rfl (fun v1 e1 => q_iload rfl ?_)
        refine v_imul' e1 (by omega) (fun v2 e2 => ?_)
        refine q_iload rfl (v_iadd (by omega) (fun v3 e3 => ?_))
        refine m_ald (k := 31) (n := 576) S (by decide) (by omega) (by omega) ?_
        have hx : v3.toNatClampNeg = 8 * x1.toNatClampNeg + m := by
          have c3 := x_clamp (n := v3) (by omega)
          omega
        rw [hx]
        refine q_iload rfl (q_iconst (q_irem (by decide) (q_icmp (fun d3 => ?_) (fun d3 => ?_))))
        · refine xR.up (xR.blk c112_64 (q_iconst (q_goto (hst 0 (by decide) ?_)))) (by omega)
          rw [show (F 49 (8 * x1.toNatClampNeg + m) == p - p / 10 * 10) = false from beq_false_of_ne d3, Bool.and_false]
          rfl
        · refine q_iconst (q_goto (xR.up (hst 1 (by decide) ?_) (by omega)))
          rw [show (F 49 (8 * x1.toNatClampNeg + m) == p - p / 10 * 10) = true from beq_iff_eq.mpr (Classical.byContradiction d3), Bool.and_true, show decide (s.toInt = 1) = true from decide_eq_true (by omega)]
          rfl
  show xR _ 112 0 ([.inr (.inr (8, 1)), .inl x1, .inl x2, .inr (.inr (0, 0)), .inr (.inr (0, 0)), .inr (.inr (0, 0)), .inr (.inr (0, 0))], [], mh h F) Z
  refine xR.blk c112_0 ?_
  refine q_iload rfl ?_
  refine q_call (Nat.le_of_ble_eq_true rfl) (Nat.le_of_ble_eq_true rfl) (by show x_ce h + 0 ≤ 0; rw [S.2.2.1]; exact Nat.le_refl 0) (by show x_so h + 0 ≤ 0; rw [S.2.2.2]; exact Nat.le_refl 0) ?_
  refine xC.up (tv95 (h := x_setc h 0 0) (F := F) (x0 := x2) S.set (fun o1 F2 hp => ?_)) (by omega)
  obtain ⟨hF, v, rfl, q⟩ := hp
  rw [hF]
  have hv := msz_eq q
  have hm := msz_le (p := x2)
  show x_seq _ _ _ _ ([.inr (.inr (8, 1)), .inl x1, .inl x2, .inr (.inr (0, 0)), .inr (.inr (0, 0)), .inr (.inr (0, 0)), .inr (.inr (0, 0))], [.inl v], mh h F)
  refine q_istore (Nat.le_of_ble_eq_true rfl) (q_iload rfl (q_istore (Nat.le_of_ble_eq_true rfl) (q_aload rfl (by decide) (m_gfr S (n := 72) (by decide) (q_iload rfl (m_ald (k := 30) (n := 72) S (by decide) (by omega) (by omega) ?_))))))
  have hst : ∀ t : Int32, (0 ≤ t.toInt ∧ t.toInt ≤ 1) → decide (t.toInt = 1) = decide ((msz x2 : Int) ≤ (F 48 x1.toNatClampNeg).toInt) → xR 50 112 23 ([.inr (.inr (8, 1)), .inl x1, .inl x2, .inl v, .inl x2, .inr (.inr (0, 0)), .inr (.inr (0, 0))], [.inl t], mh h F) Z := by
    intro t ht hd
    refine xR.blk c112_23 ?_
    refine q_istore (Nat.le_of_ble_eq_true rfl) (q_iload rfl (v_iconst (k := 1) rfl (fun v1 e1 => v_isub (by omega) (fun v2 e2 => q_istore (Nat.le_of_ble_eq_true rfl) (q_goto ?_)))))
    refine (lp (msz x2) v x2 t v2 ht (by omega) (by omega) ?_).up (by omega)
    rw [hd]
    rfl
  refine q_iload rfl (v_icmp_lt (fun d => ?_) (fun d => ?_))
  · refine xR.up (xR.blk c112_22 (q_iconst (q_goto (hst 0 (by decide) ?_)))) (by omega)
    rw [show decide ((msz x2 : Int) ≤ (F 48 x1.toNatClampNeg).toInt) = false from decide_eq_false (by omega)]
    rfl
  · refine q_iconst (q_goto (xR.up (hst 1 (by decide) ?_) (by omega)))
    rw [show decide ((msz x2 : Int) ≤ (F 48 x1.toNatClampNeg).toInt) = true from decide_eq_true (by omega)]
    rfl
theorem tv113 {h : xH} {Z : xO → xH → Prop} {F : xF} {x1 : Int32} {x2 : Int32} (S : MS h) (g1 : 0 ≤ x1.toInt ∧ x1.toInt ≤ 71) (g9 : 1 ≤ (F 48 x1.toNatClampNeg).toInt) (hZ : ∀ (o : xO) (F' : xF), F' = F ∧ (∃ v : Int32, o = .inl (some (.inl v)) ∧ ((0 ≤ v.toInt ∧ v.toInt ≤ 1) ∧ (v.toInt = 1 → (F 48 x1.toNatClampNeg).toInt < 3 ∨ FT F x1.toNatClampNeg x2 = true))) → Z o (mh h F')) : xC 60000000000 113 [.inr (.inr (8, 1)), .inl x1, .inl x2] (mh h F) Z := by
  refine ⟨rfl, S.2.2.1, S.2.2.2, ?_⟩
  show xR _ 113 0 ([.inr (.inr (8, 1)), .inl x1, .inl x2, .inr (.inr (0, 0))], [], mh h F) Z
  refine xR.blk c113_0 ?_
  refine q_iload rfl ?_
  refine q_istore (Nat.le_of_ble_eq_true rfl) ?_
  show x_seq _ _ _ _ ([.inr (.inr (8, 1)), .inl x1, .inl x2, .inl x2], [], mh h F)
  refine q_goto ?_
  have lp1 : ∀ (m2 : Nat) (ylp1_3 : Int32), (ylp1_3 = x2 ∨ (F 48 x1.toNatClampNeg).toInt < 3) → ylp1_3.toInt.toNat < m2 → xR (200 + 10 * m2) 113 2 ([.inr (.inr (8, 1)), .inl x1, .inl x2, .inl ylp1_3], [], mh h F) Z := by
    intro m2
    induction m2 with
    | zero => intro ylp1_3 klp1_0 kmlp1; exact absurd kmlp1 (by omega)
    | succ m2 ih3 =>
      intro ylp1_3 klp1_0 kmlp1
      rw [show 200 + 10 * (m2 + 1) = 200 + 10 * m2 + 10 by omega]
      refine xR.blk c113_2 ?_
      refine q_iload rfl ?_
      refine q_call (Nat.le_of_ble_eq_true rfl) (Nat.le_of_ble_eq_true rfl) (by show x_ce h + 0 ≤ 0; rw [S.2.2.1]; exact Nat.le_refl 0) (by show x_so h + 0 ≤ 0; rw [S.2.2.2]; exact Nat.le_refl 0) ?_
      refine xC.up (tv95 (h := x_setc h 0 0) (F := F) (x0 := ylp1_3) S.set  (fun o4 F5 hp => ?_)) (by omega)
      obtain ⟨hF8, ⟨v7, rfl, q6⟩⟩ := hp
      rw [hF8]
      show x_seq _ _ _ _ ([.inr (.inr (8, 1)), .inl x1, .inl x2, .inl ylp1_3], [.inl v7], mh h F)
      refine q_aload rfl (by decide) ?_
      refine m_gfr S (n := 72) (by decide) ?_
      refine q_iload rfl ?_
      refine m_ald (k := 30) (n := 72) S (by decide) (by omega) (by omega) ?_
      refine v_icmp_le (fun d9 => ?_) (fun d9 => ?_)
      · skip
        refine xR.blk c113_23 ?_
        refine q_aload rfl (by decide) ?_
        refine q_iload rfl ?_
        refine q_iload rfl ?_
        refine q_callv (j := 1) rfl (by decide) ⟨Nat.le_refl 1, Nat.le_of_eq S.1.symm⟩ (Nat.le_of_ble_eq_true rfl) (Nat.le_of_ble_eq_true rfl) (by show x_ce h + 0 ≤ 0; rw [S.2.2.1]; exact Nat.le_refl 0) (by show x_so h + 0 ≤ 0; rw [S.2.2.2]; exact Nat.le_refl 0) ?_
        refine xC.up (tv112 (h := x_setc h 0 0) (F := F) (x1 := x1) (x2 := ylp1_3) S.set (by omega) (fun o10 F11 hp => ?_)) (by omega)
        obtain ⟨hF14, ⟨v13, rfl, q12⟩⟩ := hp
        rw [hF14]
        show x_seq _ _ _ _ ([.inr (.inr (8, 1)), .inl x1, .inl x2, .inl ylp1_3], [.inl v13], mh h F)
        exact q_zret (i32_01 (by omega)) (hZ _ _ ⟨rfl, ⟨_, rfl, q12.1, fun hz => by rcases klp1_0 with q9 | q9 <;> first | exact Or.inl q9 | (rw [← q9]; exact Or.inr (q12.2.mp hz))⟩⟩)
      · skip
        refine q_iload rfl ?_
        refine v_iconst (k := 10) rfl (fun v15 e16 => ?_)
        refine v_idiv e16 (by decide) (by omega) (fun v17 e18 => ?_)
        refine q_istore (Nat.le_of_ble_eq_true rfl) ?_
        show x_seq _ _ _ _ ([.inr (.inr (8, 1)), .inl x1, .inl x2, .inl v17], [], mh h F)
        refine q_goto ?_
        exact (ih3 v17 (Or.inr (by omega)) (by omega)).up (by omega)
  have b9 := Int32.toInt_lt x2
  exact (lp1 2147483649 x2 (Or.inl rfl) (by omega)).up (by omega)
theorem tv114 {h : xH} {Z : xO → xH → Prop} {F : xF} {e : Nat} {x1 : Int32} {x2 : Int32} (S : MS h) (g1 : 0 ≤ x1.toInt ∧ x1.toInt ≤ 71) (g2 : 0 ≤ x2.toInt ∧ x2.toInt ≤ 2) (M : MX e F) (hZ : ∀ (o : xO) (F' : xF), F' = F ∧ (∃ v : Int32, o = .inl (some (.inl v)) ∧ ((v.toInt = -1 ∨ (12 * x2.toInt ≤ v.toInt ∧ v.toInt < 12 * x2.toInt + 12)) ∧ (v.toInt = -1 → ∀ j : Nat, 12 * x2.toInt ≤ j → (j : Int) < 12 * x2.toInt + (F 29 x2.toNatClampNeg).toInt → FT F x1.toNatClampNeg (F 30 j) = false))) → Z o (mh h F')) : xC 2000 114 [.inr (.inr (8, 1)), .inl x1, .inl x2] (mh h F) Z := by
  refine ⟨rfl, S.2.2.1, S.2.2.2, ?_⟩
  show xR _ 114 0 ([.inr (.inr (8, 1)), .inl x1, .inl x2, .inr (.inr (0, 0)), .inr (.inr (0, 0))], [], mh h F) Z
  refine xR.blk c114_0 ?_
  refine v_iconst (k := -1) rfl (fun v1 e2 => ?_)
  refine q_istore (Nat.le_of_ble_eq_true rfl) ?_
  show x_seq _ _ _ _ ([.inr (.inr (8, 1)), .inl x1, .inl x2, .inl v1, .inr (.inr (0, 0))], [], mh h F)
  refine v_iconst (k := 12) rfl (fun v3 e4 => ?_)
  refine q_iload rfl ?_
  refine v_imul' e4 (by omega) (fun v5 e6 => ?_)
  refine q_istore (Nat.le_of_ble_eq_true rfl) ?_
  show x_seq _ _ _ _ ([.inr (.inr (8, 1)), .inl x1, .inl x2, .inl v1, .inl v5], [], mh h F)
  refine q_goto ?_
  have lp7 : ∀ (m8 : Nat) (ylp7_3 : Int32) (ylp7_4 : Int32), (12 * x2.toInt ≤ ylp7_4.toInt ∧ ylp7_4.toInt ≤ 12 * x2.toInt + 12) → (ylp7_3.toInt = -1 ∨ (12 * x2.toInt ≤ ylp7_3.toInt ∧ ylp7_3.toInt < 12 * x2.toInt + 12)) → (ylp7_3.toInt = -1 → ∀ j : Nat, 12 * x2.toInt ≤ j → (j : Int) < ylp7_4.toInt → FT F x1.toNatClampNeg (F 30 j) = false) → (12 * x2.toInt + 12 - ylp7_4.toInt).toNat < m8 → xR (110 + 10 * m8) 114 8 ([.inr (.inr (8, 1)), .inl x1, .inl x2, .inl ylp7_3, .inl ylp7_4], [], mh h F) Z := by
    intro m8
    induction m8 with
    | zero => intro ylp7_3 ylp7_4 klp7_0 klp7_1 klp7_2 kmlp7; exact absurd kmlp7 (by omega)
    | succ m8 ih9 =>
      intro ylp7_3 ylp7_4 klp7_0 klp7_1 klp7_2 kmlp7
      rw [show 110 + 10 * (m8 + 1) = 110 + 10 * m8 + 10 by omega]
      refine xR.blk c114_8 ?_
      refine q_iload rfl ?_
      refine v_iconst (k := 12) rfl (fun v10 e11 => ?_)
      refine q_iload rfl ?_
      refine v_imul' e11 (by omega) (fun v12 e13 => ?_)
      refine q_aload rfl (by decide) ?_
      refine m_gfr S (n := 3) (by decide) ?_
      refine q_iload rfl ?_
      refine m_ald (k := 10) (n := 3) S (by decide) (by omega) (by omega) ?_
      have e14 : 0 ≤ (F 29 x2.toNatClampNeg).toInt ∧ (F 29 x2.toNatClampNeg).toInt ≤ 12 := M.rg (lo := 0) (hi := 12) (by decide) _
      refine v_iadd (by omega) (fun v15 e16 => ?_)
      refine v_icmp_ge (fun d17 => ?_) (fun d17 => ?_)
      · skip
        refine xR.blk c114_52 ?_
        refine q_iload rfl ?_
        exact q_iret (hZ _ _ ⟨rfl, ⟨_, rfl, klp7_1, fun hz j h1 h2 => klp7_2 hz j h1 (by omega)⟩⟩)
      · skip
        refine q_aload rfl (by decide) ?_
        refine q_iload rfl ?_
        refine q_aload rfl (by decide) ?_
        refine m_gfr S (n := 36) (by decide) ?_
        refine q_iload rfl ?_
        refine m_ald (k := 11) (n := 36) S (by decide) (by omega) (by omega) ?_
        have hI : ∀ j : Nat, (j : Int) = ylp7_4.toInt → F 30 j = (F 30 ylp7_4.toNatClampNeg) := fun j hj => congrArg (F 30) (by have c9 := x_clamp (n := ylp7_4) (by omega); omega)
        refine q_callv (j := 1) rfl (by decide) ⟨Nat.le_refl 1, Nat.le_of_eq S.1.symm⟩ (Nat.le_of_ble_eq_true rfl) (Nat.le_of_ble_eq_true rfl) (by show x_ce h + 0 ≤ 0; rw [S.2.2.1]; exact Nat.le_refl 0) (by show x_so h + 0 ≤ 0; rw [S.2.2.2]; exact Nat.le_refl 0) ?_
        refine xC.up (tv112 (h := x_setc h 0 0) (F := F) (x1 := x1) (x2 := (F 30 ylp7_4.toNatClampNeg)) S.set (by omega) (fun o18 F19 hp => ?_)) (by omega)
        obtain ⟨hF22, ⟨v21, rfl, q20⟩⟩ := hp
        rw [hF22]
        show x_seq _ _ _ _ ([.inr (.inr (8, 1)), .inl x1, .inl x2, .inl ylp7_3, .inl ylp7_4], [.inl v21], mh h F)
        have hQ := q20
        refine v_if_eq (fun d23 => ?_) (fun d23 => ?_)
        · skip
          refine xR.blk c114_44 ?_
          refine q_iload rfl ?_
          refine q_goto ?_
          refine xR.blk c114_45 ?_
          refine q_istore (Nat.le_of_ble_eq_true rfl) ?_
          show x_seq _ _ _ _ ([.inr (.inr (8, 1)), .inl x1, .inl x2, .inl ylp7_3, .inl ylp7_4], [], mh h F)
          refine v_iinc (k := 1) rfl rfl (by omega) (by omega) (fun v24 e25 => ?_)
          show x_seq _ _ _ _ ([.inr (.inr (8, 1)), .inl x1, .inl x2, .inl ylp7_3, .inl v24], [], mh h F)
          refine q_goto ?_
          exact (ih9 ylp7_3 v24 (by omega) (by omega) (fun hz j h1 h2 => by first | (exfalso; omega) | (rcases (show (j : Int) = ylp7_4.toInt ∨ (j : Int) < ylp7_4.toInt by omega) with q9 | q9 <;> first | (rw [hI j q9]; exact Bool.eq_false_iff.mpr (fun z => by have c9 := hQ.2.mpr z; omega)) | exact klp7_2 hz j h1 q9)) (by omega)).up (by omega)
        · skip
          refine q_iload rfl ?_
          refine q_goto ?_
          refine xR.blk c114_45 ?_
          refine q_istore (Nat.le_of_ble_eq_true rfl) ?_
          show x_seq _ _ _ _ ([.inr (.inr (8, 1)), .inl x1, .inl x2, .inl ylp7_4, .inl ylp7_4], [], mh h F)
          refine v_iinc (k := 1) rfl rfl (by omega) (by omega) (fun v26 e27 => ?_)
          show x_seq _ _ _ _ ([.inr (.inr (8, 1)), .inl x1, .inl x2, .inl ylp7_4, .inl v26], [], mh h F)
          refine q_goto ?_
          exact (ih9 ylp7_4 v26 (by omega) (by omega) (fun hz j h1 h2 => by first | (exfalso; omega) | (rcases (show (j : Int) = ylp7_4.toInt ∨ (j : Int) < ylp7_4.toInt by omega) with q9 | q9 <;> first | (rw [hI j q9]; exact Bool.eq_false_iff.mpr (fun z => by have c9 := hQ.2.mpr z; omega)) | exact klp7_2 hz j h1 q9)) (by omega)).up (by omega)
  exact (lp7 13 v1 v5 (by omega) (by omega) (fun hz j h1 h2 => by exfalso; omega) (by omega)).up (by omega)
