/-! THE CLASS: what it throws, in sharper words -/
theorem tw45 {c : xP} {h : xH} {Z : xO → xH → Prop} {x0 : Int32} (V : VI c 0 0 h)  (hZ : ∀ (o : xO) (g : xH), (g = h ∧ (o = .inl none ∧ (x0.toInt ≠ 0))) ∨ ((CI g ∧ x_pj g = c) ∧ o = .inr 1 ∧ (x0.toInt = 0)) → Z o g) : xC 10 45 [.inl x0] h Z := by
  refine ⟨rfl, V.2.2.1, V.2.2.2, ?_⟩
  show xR _ 45 0 ([.inl x0], [], h) Z
  refine xR.blk c45_0 ?_
  refine q_iload rfl ?_
  refine v_if_ne (fun d1 => ?_) (fun d1 => ?_)
  · skip
    refine xR.blk c45_12 ?_
    exact q_ret (hZ _ _ (Or.inl ⟨rfl, ⟨rfl, by omega⟩⟩))
  · skip
    exact q_throw (Nat.le_of_ble_eq_true rfl) (by rw [V.2.2.1]; decide) (by rw [V.2.2.2]; decide) (fun d => hZ _ _ (Or.inr ⟨V.exc, rfl, by omega⟩))
theorem tw51 {c : xP} {h : xH} {Z : xO → xH → Prop} {x0 : Nat} {x1 : Int32} {x2 : Int32} (V : VI c 0 0 h) (g0 : L c 7 x0) (hZ : ∀ (o : xO) (g : xH), ((CI g ∧ x_pj g = c) ∧ (∃ j : Nat, o = .inl (some (.inr (.inr (2, j)))) ∧ L c 2 j ∧ (0 ≤ x1.toInt ∧ x1.toInt ≤ 2 ∧ 0 ≤ x2.toInt ∧ x2.toInt ≤ 23))) ∨ ((CI g ∧ x_pj g = c) ∧ o = .inr 1) → Z o g) : xC 30 51 [.inr (.inr (7, x0)), .inl x1, .inl x2] h Z := by
  refine ⟨rfl, V.2.2.1, V.2.2.2, ?_⟩
  show xR _ 51 0 ([.inr (.inr (7, x0)), .inl x1, .inl x2], [], h) Z
  refine xR.blk c51_0 ?_
  refine q_iload rfl ?_
  refine q_call (Nat.le_of_ble_eq_true rfl) (Nat.le_of_ble_eq_true rfl) (by rw [V.2.2.1]; decide) (by rw [V.2.2.2]; decide) ?_
  refine xC.up (tv44 (x0 := x1) V.set  (fun o1 g2 hp => ?_)) (by omega)
  obtain ⟨rfl, ⟨v4, rfl, f5⟩⟩ := hp
  show x_seq _ _ _ _ ([.inr (.inr (7, x0)), .inl x1, .inl x2], [.inl v4], h)
  refine v_if_eq (fun d6 => ?_) (fun d6 => ?_)
  · skip
    refine xR.blk c51_18 ?_
    refine v_iconst (k := 0) rfl (fun v7 e8 => ?_)
    refine q_goto ?_
    refine xR.blk c51_19 ?_
    refine q_call (Nat.le_of_ble_eq_true rfl) (Nat.le_of_ble_eq_true rfl) (by rw [V.2.2.1]; decide) (by rw [V.2.2.2]; decide) ?_
    refine xC.up (tw45 (x0 := v7) V.set  (fun o9 g10 hp => ?_)) (by omega)
    rcases hp with ⟨rfl, rfl, f13⟩ | ⟨hg11, rfl, f9⟩
    · skip
      have V14 : VI c 1 6 (x_setc (x_setc h 0 0) (x_ce h + 1) (x_so h + 6)) := VI.after (mc := 1) (ms := 6) V ⟨V.1, V.2.1⟩
      show x_seq _ _ _ _ ([.inr (.inr (7, x0)), .inl x1, .inl x2], [], (x_setc (x_setc h 0 0) (x_ce h + 1) (x_so h + 6)))
      refine q_aload rfl (by decide) ?_
      refine v_gfrn V14 (by decide) rfl g0 (fun j15 f16 => ?_)
      refine q_iload rfl ?_
      refine v_aaldn V14 (L' := 3) (by decide) (by decide) rfl f16 (by omega) (by omega) (fun j17 f18 => ?_)
      refine v_gfrn V14 (by decide) rfl f18 (fun j19 f20 => ?_)
      refine q_iload rfl ?_
      refine v_aaldn V14 (L' := 24) (by decide) (by decide) rfl f20 (by omega) (by omega) (fun j21 f22 => ?_)
      exact q_aret (hZ _ _ (Or.inl ⟨⟨V14.1, V14.2.1⟩, ⟨_, rfl, f22, by omega⟩⟩))
    · exact hZ _ _ (Or.inr ⟨hg11, rfl⟩)
  · skip
    refine q_iload rfl ?_
    refine q_call (Nat.le_of_ble_eq_true rfl) (Nat.le_of_ble_eq_true rfl) (by rw [V.2.2.1]; decide) (by rw [V.2.2.2]; decide) ?_
    refine xC.up (tv26 (x0 := x2) V.set  (fun o23 g24 hp => ?_)) (by omega)
    obtain ⟨rfl, ⟨v26, rfl, f27⟩⟩ := hp
    show x_seq _ _ _ _ ([.inr (.inr (7, x0)), .inl x1, .inl x2], [.inl v26], h)
    refine v_if_eq (fun d28 => ?_) (fun d28 => ?_)
    · skip
      refine xR.blk c51_18 ?_
      refine v_iconst (k := 0) rfl (fun v29 e30 => ?_)
      refine q_goto ?_
      refine xR.blk c51_19 ?_
      refine q_call (Nat.le_of_ble_eq_true rfl) (Nat.le_of_ble_eq_true rfl) (by rw [V.2.2.1]; decide) (by rw [V.2.2.2]; decide) ?_
      refine xC.up (tw45 (x0 := v29) V.set  (fun o31 g32 hp => ?_)) (by omega)
      rcases hp with ⟨rfl, rfl, f35⟩ | ⟨hg33, rfl, f9⟩
      · skip
        have V36 : VI c 1 6 (x_setc (x_setc h 0 0) (x_ce h + 1) (x_so h + 6)) := VI.after (mc := 1) (ms := 6) V ⟨V.1, V.2.1⟩
        show x_seq _ _ _ _ ([.inr (.inr (7, x0)), .inl x1, .inl x2], [], (x_setc (x_setc h 0 0) (x_ce h + 1) (x_so h + 6)))
        refine q_aload rfl (by decide) ?_
        refine v_gfrn V36 (by decide) rfl g0 (fun j37 f38 => ?_)
        refine q_iload rfl ?_
        refine v_aaldn V36 (L' := 3) (by decide) (by decide) rfl f38 (by omega) (by omega) (fun j39 f40 => ?_)
        refine v_gfrn V36 (by decide) rfl f40 (fun j41 f42 => ?_)
        refine q_iload rfl ?_
        refine v_aaldn V36 (L' := 24) (by decide) (by decide) rfl f42 (by omega) (by omega) (fun j43 f44 => ?_)
        exact q_aret (hZ _ _ (Or.inl ⟨⟨V36.1, V36.2.1⟩, ⟨_, rfl, f44, by omega⟩⟩))
      · exact hZ _ _ (Or.inr ⟨hg33, rfl⟩)
    · skip
      refine v_iconst (k := 1) rfl (fun v45 e46 => ?_)
      refine q_goto ?_
      refine xR.blk c51_19 ?_
      refine q_call (Nat.le_of_ble_eq_true rfl) (Nat.le_of_ble_eq_true rfl) (by rw [V.2.2.1]; decide) (by rw [V.2.2.2]; decide) ?_
      refine xC.up (tw45 (x0 := v45) V.set  (fun o47 g48 hp => ?_)) (by omega)
      rcases hp with ⟨rfl, rfl, f51⟩ | ⟨hg49, rfl, f9⟩
      · skip
        have V52 : VI c 1 6 (x_setc (x_setc h 0 0) (x_ce h + 1) (x_so h + 6)) := VI.after (mc := 1) (ms := 6) V ⟨V.1, V.2.1⟩
        show x_seq _ _ _ _ ([.inr (.inr (7, x0)), .inl x1, .inl x2], [], (x_setc (x_setc h 0 0) (x_ce h + 1) (x_so h + 6)))
        refine q_aload rfl (by decide) ?_
        refine v_gfrn V52 (by decide) rfl g0 (fun j53 f54 => ?_)
        refine q_iload rfl ?_
        refine v_aaldn V52 (L' := 3) (by decide) (by decide) rfl f54 (by omega) (by omega) (fun j55 f56 => ?_)
        refine v_gfrn V52 (by decide) rfl f56 (fun j57 f58 => ?_)
        refine q_iload rfl ?_
        refine v_aaldn V52 (L' := 24) (by decide) (by decide) rfl f58 (by omega) (by omega) (fun j59 f60 => ?_)
        exact q_aret (hZ _ _ (Or.inl ⟨⟨V52.1, V52.2.1⟩, ⟨_, rfl, f60, by omega⟩⟩))
      · exact hZ _ _ (Or.inr ⟨hg49, rfl⟩)
theorem tw78 {c : xP} {h : xH} {Z : xO → xH → Prop} {x0 : Nat} {x1 : Int32} (V : VI c 0 0 h) (g0 : L c 7 x0) (hZ : ∀ (o : xO) (g : xH), ((CI g ∧ x_pj g = c) ∧ (o = .inl none ∧ (1 ≤ x1.toInt ∧ x1.toInt ≤ 100))) ∨ ((CI g ∧ x_pj g = c) ∧ o = .inr 1 ∧ (¬ (1 ≤ x1.toInt ∧ x1.toInt ≤ 100))) → Z o g) : xC 20000050000 78 [.inr (.inr (7, x0)), .inl x1] h Z := by
  refine ⟨rfl, V.2.2.1, V.2.2.2, ?_⟩
  show xR _ 78 0 ([.inr (.inr (7, x0)), .inl x1, .inr (.inr (0, 0)), .inr (.inr (0, 0))], [], h) Z
  refine xR.blk c78_0 ?_
  refine q_iload rfl ?_
  refine v_iconst (k := 1) rfl (fun v1 e2 => ?_)
  refine v_iconst (k := 100) rfl (fun v3 e4 => ?_)
  refine q_call (Nat.le_of_ble_eq_true rfl) (Nat.le_of_ble_eq_true rfl) (by rw [V.2.2.1]; decide) (by rw [V.2.2.2]; decide) ?_
  refine xC.up (tv25 (x0 := x1) (x1 := v1) (x2 := v3) V.set  (fun o5 g6 hp => ?_)) (by omega)
  obtain ⟨rfl, ⟨v8, rfl, f9⟩⟩ := hp
  show x_seq _ _ _ _ ([.inr (.inr (7, x0)), .inl x1, .inr (.inr (0, 0)), .inr (.inr (0, 0))], [.inl v8], h)
  refine q_call (Nat.le_of_ble_eq_true rfl) (Nat.le_of_ble_eq_true rfl) (by rw [V.2.2.1]; decide) (by rw [V.2.2.2]; decide) ?_
  refine xC.up (tw45 (x0 := v8) V.set  (fun o10 g11 hp => ?_)) (by omega)
  rcases hp with ⟨rfl, rfl, f14⟩ | ⟨hg12, rfl, f9⟩
  · skip
    have V15 : VI c 1 6 (x_setc (x_setc h 0 0) (x_ce h + 1) (x_so h + 6)) := VI.after (mc := 1) (ms := 6) V ⟨V.1, V.2.1⟩
    show x_seq _ _ _ _ ([.inr (.inr (7, x0)), .inl x1, .inr (.inr (0, 0)), .inr (.inr (0, 0))], [], (x_setc (x_setc h 0 0) (x_ce h + 1) (x_so h + 6)))
    refine v_iconst (k := 0) rfl (fun v16 e17 => ?_)
    refine q_istore (Nat.le_of_ble_eq_true rfl) ?_
    show x_seq _ _ _ _ ([.inr (.inr (7, x0)), .inl x1, .inl v16, .inr (.inr (0, 0))], [], (x_setc (x_setc h 0 0) (x_ce h + 1) (x_so h + 6)))
    refine q_goto ?_
    have lp19 : ∀ (m18 : Nat) (ylp19_2 : Int32) (zlp19_3 : xV) (h21 : xH), VI c 1 6 h21 → (0 ≤ ylp19_2.toInt ∧ ylp19_2.toInt ≤ 100) → (100 - ylp19_2.toInt).toNat < m18 → xR (20000010000 + 300 * m18) 78 12 ([.inr (.inr (7, x0)), .inl x1, .inl ylp19_2, zlp19_3], [], h21) Z := by
      intro m18
      induction m18 with
      | zero => intro ylp19_2 zlp19_3 h21 V22 klp19_2 kmlp19; exact absurd kmlp19 (by omega)
      | succ m18 ih20 =>
        intro ylp19_2 zlp19_3 h21 V22 klp19_2 kmlp19
        rw [show 20000010000 + 300 * (m18 + 1) = 20000010000 + 300 * m18 + 300 by omega]
        refine xR.blk c78_12 ?_
        refine q_iload rfl ?_
        refine q_iload rfl ?_
        refine v_icmp_ge (fun d23 => ?_) (fun d23 => ?_)
        · skip
          refine xR.blk c78_58 ?_
          exact q_ret (hZ _ _ (Or.inl ⟨⟨V22.1, V22.2.1⟩, ⟨rfl, by omega⟩⟩))
        · skip
          refine v_iconst (k := 0) rfl (fun v24 e25 => ?_)
          refine q_istore (Nat.le_of_ble_eq_true rfl) ?_
          show x_seq _ _ _ _ ([.inr (.inr (7, x0)), .inl x1, .inl ylp19_2, .inl v24], [], h21)
          refine q_goto ?_
          have lp27 : ∀ (m26 : Nat) (ylp27_3 : Int32) (h29 : xH), VI c 1 6 h29 → (0 ≤ ylp27_3.toInt ∧ ylp27_3.toInt ≤ 3) → (3 - ylp27_3.toInt).toNat < m26 → xR (20000010000 + 300 * m18 + 20 + 12 * m26) 78 19 ([.inr (.inr (7, x0)), .inl x1, .inl ylp19_2, .inl ylp27_3], [], h29) Z := by
            intro m26
            induction m26 with
            | zero => intro ylp27_3 h29 V30 klp27_3 kmlp27; exact absurd kmlp27 (by omega)
            | succ m26 ih28 =>
              intro ylp27_3 h29 V30 klp27_3 kmlp27
              rw [show 20000010000 + 300 * m18 + 20 + 12 * (m26 + 1) = 20000010000 + 300 * m18 + 20 + 12 * m26 + 12 by omega]
              refine xR.blk c78_19 ?_
              refine q_iload rfl ?_
              refine v_iconst (k := 3) rfl (fun v31 e32 => ?_)
              refine v_icmp_ge (fun d33 => ?_) (fun d33 => ?_)
              · skip
                refine xR.blk c78_40 ?_
                refine q_aload rfl (by decide) ?_
                refine q_callv rfl (by decide) (V30.lv g0) (Nat.le_of_ble_eq_true rfl) (Nat.le_of_ble_eq_true rfl) (by rw [V30.2.2.1]; decide) (by rw [V30.2.2.2]; decide) ?_
                refine xC.up (tv73 (x0 := x0) V30.set g0 (fun o34 g35 hp => ?_)) (by omega)
                obtain ⟨hg36, rfl⟩ := hp
                have V39 := VI.after (mc := 0) (ms := 0) V30 hg36
                show x_seq _ _ _ _ ([.inr (.inr (7, x0)), .inl x1, .inl ylp19_2, .inl ylp27_3], [], x_setc g35 (x_ce h29 + 0) (x_so h29 + 0))
                generalize x_setc g35 (x_ce h29 + 0) (x_so h29 + 0) = h40 at V39 ⊢
                refine q_aload rfl (by decide) ?_
                refine q_callv rfl (by decide) (V39.lv g0) (Nat.le_of_ble_eq_true rfl) (Nat.le_of_ble_eq_true rfl) (by rw [V39.2.2.1]; decide) (by rw [V39.2.2.2]; decide) ?_
                refine xC.up (tv76 (x0 := x0) V39.set g0 (fun o41 g42 hp => ?_)) (by omega)
                obtain ⟨hg43, rfl⟩ := hp
                have V46 := VI.after (mc := 0) (ms := 0) V39 hg43
                show x_seq _ _ _ _ ([.inr (.inr (7, x0)), .inl x1, .inl ylp19_2, .inl ylp27_3], [], x_setc g42 (x_ce h40 + 0) (x_so h40 + 0))
                generalize x_setc g42 (x_ce h40 + 0) (x_so h40 + 0) = h47 at V46 ⊢
                refine q_aload rfl (by decide) ?_
                refine q_callv rfl (by decide) (V46.lv g0) (Nat.le_of_ble_eq_true rfl) (Nat.le_of_ble_eq_true rfl) (by rw [V46.2.2.1]; decide) (by rw [V46.2.2.2]; decide) ?_
                refine xC.up (tv77 (x0 := x0) V46.set g0 (fun o48 g49 hp => ?_)) (by omega)
                obtain ⟨hg50, rfl⟩ := hp
                have V53 := VI.after (mc := 0) (ms := 0) V46 hg50
                show x_seq _ _ _ _ ([.inr (.inr (7, x0)), .inl x1, .inl ylp19_2, .inl ylp27_3], [], x_setc g49 (x_ce h47 + 0) (x_so h47 + 0))
                generalize x_setc g49 (x_ce h47 + 0) (x_so h47 + 0) = h54 at V53 ⊢
                refine v_iinc (k := 1) rfl rfl (by omega) (by have b9 := Int32.toInt_lt ylp19_2; omega) (fun v55 e56 => ?_)
                show x_seq _ _ _ _ ([.inr (.inr (7, x0)), .inl x1, .inl v55, .inl ylp27_3], [], h54)
                refine q_goto ?_
                exact (ih20 v55 (.inl ylp27_3) _ V53 (by omega) (by omega)).up (by omega)
              · skip
                refine q_aload rfl (by decide) ?_
                refine q_aload rfl (by decide) ?_
                refine v_gfrn V30 (by decide) rfl g0 (fun j57 f58 => ?_)
                refine q_iload rfl ?_
                refine v_aaldn V30 (L' := 3) (by decide) (by decide) rfl f58 (by omega) (by omega) (fun j59 f60 => ?_)
                refine q_callv rfl (by decide) (V30.lv g0) (Nat.le_of_ble_eq_true rfl) (Nat.le_of_ble_eq_true rfl) (by rw [V30.2.2.1]; decide) (by rw [V30.2.2.2]; decide) ?_
                refine xC.up (tv71 (x0 := x0) (x1 := j59) V30.set g0 f60 (fun o61 g62 hp => ?_)) (by omega)
                obtain ⟨hg63, rfl⟩ := hp
                have V66 := VI.after (mc := 0) (ms := 0) V30 hg63
                show x_seq _ _ _ _ ([.inr (.inr (7, x0)), .inl x1, .inl ylp19_2, .inl ylp27_3], [], x_setc g62 (x_ce h29 + 0) (x_so h29 + 0))
                generalize x_setc g62 (x_ce h29 + 0) (x_so h29 + 0) = h67 at V66 ⊢
                refine v_iinc (k := 1) rfl rfl (by omega) (by have b9 := Int32.toInt_lt ylp27_3; omega) (fun v68 e69 => ?_)
                show x_seq _ _ _ _ ([.inr (.inr (7, x0)), .inl x1, .inl ylp19_2, .inl v68], [], h67)
                refine q_goto ?_
                exact (ih28 v68 _ V66 (by omega) (by omega)).up (by omega)
          exact (lp27 4 v24 _ V22 (by omega) (by omega)).up (by omega)
    exact (lp19 101 v16 (.inr (.inr (0, 0))) _ V15 (by omega) (by omega)).up (by omega)
  · exact hZ _ _ (Or.inr ⟨hg12, rfl, by omega⟩)
theorem tw79 {c : xP} {h : xH} {Z : xO → xH → Prop} {x0 : Nat} {x1 : Int32} {x2 : Int32} (V : VI c 0 0 h) (g0 : L c 7 x0) (g2 : 0 ≤ x2.toInt ∧ x2.toInt ≤ 1) (hZ : ∀ (o : xO) (g : xH), ((CI g ∧ x_pj g = c) ∧ (∃ v : Int32, o = .inl (some (.inl v)) ∧ 0 ≤ v.toInt ∧ v.toInt ≤ 1)) ∨ ((CI g ∧ x_pj g = c) ∧ o = .inr 1) → Z o g) : xC 1300 79 [.inr (.inr (7, x0)), .inl x1, .inl x2] h Z := by
  refine ⟨rfl, V.2.2.1, V.2.2.2, ?_⟩
  show xR _ 79 0 ([.inr (.inr (7, x0)), .inl x1, .inl x2, .inr (.inr (0, 0)), .inr (.inr (0, 0))], [], h) Z
  refine xR.blk c79_0 ?_
  refine q_iload rfl ?_
  refine v_iconst (k := 0) rfl (fun v1 e2 => ?_)
  refine q_aload rfl (by decide) ?_
  refine q_gfi (V.lv g0) ?_
  have e3 : 0 ≤ (x_vi h 7 4 x0).toInt ∧ (x_vi h 7 4 x0).toInt ≤ 16 := V.rg (K := 7) (k := 4) (lo := 0) (hi := 16) (by decide) g0
  refine v_iconst (k := 1) rfl (fun v4 e5 => ?_)
  refine v_isub (by have b8 := Int32.toInt_lt (x_vi h 7 4 x0); have b9 := Int32.toInt_lt v4; omega) (fun v6 e7 => ?_)
  refine q_call (Nat.le_of_ble_eq_true rfl) (Nat.le_of_ble_eq_true rfl) (by rw [V.2.2.1]; decide) (by rw [V.2.2.2]; decide) ?_
  refine xC.up (tv25 (x0 := x1) (x1 := v1) (x2 := v6) V.set  (fun o8 g9 hp => ?_)) (by omega)
  obtain ⟨rfl, ⟨v11, rfl, f12⟩⟩ := hp
  show x_seq _ _ _ _ ([.inr (.inr (7, x0)), .inl x1, .inl x2, .inr (.inr (0, 0)), .inr (.inr (0, 0))], [.inl v11], h)
  refine q_call (Nat.le_of_ble_eq_true rfl) (Nat.le_of_ble_eq_true rfl) (by rw [V.2.2.1]; decide) (by rw [V.2.2.2]; decide) ?_
  refine xC.up (tw45 (x0 := v11) V.set  (fun o13 g14 hp => ?_)) (by omega)
  rcases hp with ⟨rfl, rfl, f17⟩ | ⟨hg15, rfl, f9⟩
  · skip
    have V18 : VI c 1 6 (x_setc (x_setc h 0 0) (x_ce h + 1) (x_so h + 6)) := VI.after (mc := 1) (ms := 6) V ⟨V.1, V.2.1⟩
    show x_seq _ _ _ _ ([.inr (.inr (7, x0)), .inl x1, .inl x2, .inr (.inr (0, 0)), .inr (.inr (0, 0))], [], (x_setc (x_setc h 0 0) (x_ce h + 1) (x_so h + 6)))
    refine q_aload rfl (by decide) ?_
    refine q_gfr (V18.lv g0) ?_
    show x_seq _ _ _ _ ([.inr (.inr (7, x0)), .inl x1, .inl x2, .inr (.inr (0, 0)), .inr (.inr (0, 0))], [.inr (.inr (13, (x_vr h 7 2 x0)))], (x_setc (x_setc h 0 0) (x_ce h + 1) (x_so h + 6)))
    refine q_iload rfl ?_
    refine q_aald (V18.lv (V18.nn (K := 7) (k := 2) (by decide) g0)) (V18.inn (L' := 16) (by decide) (V18.nn (K := 7) (k := 2) (by decide) g0) (by omega) (by omega)) ?_
    have f20 : L c 6 (x_vr h 13 (x_vr h 7 2 x0) x1.toNatClampNeg) := V18.of (V18.1.2.2.2.2.2.2.2.1 x0 x1.toNatClampNeg (V18.lv g0) (by have h9 := x_clamp (n := x1) (by omega); show (_ : Int) < (x_vi h 7 4 x0).toInt; omega))
    show x_seq _ _ _ _ ([.inr (.inr (7, x0)), .inl x1, .inl x2, .inr (.inr (0, 0)), .inr (.inr (0, 0))], [.inr (.inr (6, (x_vr h 13 (x_vr h 7 2 x0) x1.toNatClampNeg)))], (x_setc (x_setc h 0 0) (x_ce h + 1) (x_so h + 6)))
    refine q_astore (Nat.le_of_ble_eq_true rfl) ?_
    show x_seq _ _ _ _ ([.inr (.inr (7, x0)), .inl x1, .inl x2, .inr (.inr (6, (x_vr h 13 (x_vr h 7 2 x0) x1.toNatClampNeg))), .inr (.inr (0, 0))], [], (x_setc (x_setc h 0 0) (x_ce h + 1) (x_so h + 6)))
    refine q_aload rfl (by decide) ?_
    refine v_gfir V18 (lo := 0) (hi := 1) (by decide) f20 (fun v21 e22 => ?_)
    refine q_istore (Nat.le_of_ble_eq_true rfl) ?_
    show x_seq _ _ _ _ ([.inr (.inr (7, x0)), .inl x1, .inl x2, .inr (.inr (6, (x_vr h 13 (x_vr h 7 2 x0) x1.toNatClampNeg))), .inl v21], [], (x_setc (x_setc h 0 0) (x_ce h + 1) (x_so h + 6)))
    refine q_aload rfl (by decide) ?_
    refine q_iload rfl ?_
    refine v_pfz V18 rfl (i32_01 (by omega)) (fun lo hi hm => by simp only [x_rgl, List.mem_cons, Prod.mk.injEq, List.not_mem_nil, or_false] at hm; omega) rfl f20 (fun h23 V24 => ?_)
    refine q_iload rfl ?_
    refine v_if_eq (fun d25 => ?_) (fun d25 => ?_)
    · skip
      refine xR.blk c79_52 ?_
      refine q_iload rfl ?_
      exact q_zret (i32_01 (by omega)) (hZ _ _ (Or.inl ⟨⟨V24.1, V24.2.1⟩, ⟨_, rfl, by omega⟩⟩))
    · skip
      refine q_aload rfl (by decide) ?_
      refine q_gfr (V24.lv f20) ?_
      refine q_ifnull (fun d26 => ?_) (fun d26 => ?_)
      · skip
        refine xR.blk c79_52 ?_
        refine q_iload rfl ?_
        exact q_zret (i32_01 (by omega)) (hZ _ _ (Or.inl ⟨⟨V24.1, V24.2.1⟩, ⟨_, rfl, by omega⟩⟩))
      · skip
        have f27 : L c 1 (x_vr h23 6 3 (x_vr h 13 (x_vr h 7 2 x0) x1.toNatClampNeg)) := ⟨Nat.one_le_iff_ne_zero.mpr d26, (V24.nu (K := 6) (k := 3) (by decide) f20)⟩
        refine q_aload rfl (by decide) ?_
        refine q_aload rfl (by decide) ?_
        refine q_gfr (V24.lv f20) ?_
        refine v_iconst (k := 4) rfl (fun v28 e29 => ?_)
        refine q_callv rfl (by decide) (V24.lv g0) (Nat.le_of_ble_eq_true rfl) (Nat.le_of_ble_eq_true rfl) (by rw [V24.2.2.1]; decide) (by rw [V24.2.2.2]; decide) ?_
        refine xC.up (tv59 (x0 := x0) (x1 := (x_vr h23 6 3 (x_vr h 13 (x_vr h 7 2 x0) x1.toNatClampNeg))) (x2 := v28) V24.set g0 f27 (fun o30 g31 hp => ?_)) (by omega)
        obtain ⟨hg32, rfl⟩ := hp
        have V35 := VI.after (mc := 0) (ms := 0) V24 hg32
        show x_seq _ _ _ _ ([.inr (.inr (7, x0)), .inl x1, .inl x2, .inr (.inr (6, (x_vr h 13 (x_vr h 7 2 x0) x1.toNatClampNeg))), .inl v21], [], x_setc g31 (x_ce h23 + 0) (x_so h23 + 0))
        generalize x_setc g31 (x_ce h23 + 0) (x_so h23 + 0) = h36 at V35 ⊢
        refine q_goto ?_
        refine xR.blk c79_52 ?_
        refine q_iload rfl ?_
        exact q_zret (i32_01 (by omega)) (hZ _ _ (Or.inl ⟨⟨V35.1, V35.2.1⟩, ⟨_, rfl, by omega⟩⟩))
  · exact hZ _ _ (Or.inr ⟨hg15, rfl⟩)
theorem tw80 {c : xP} {h : xH} {Z : xO → xH → Prop} {x0 : Nat} {x1 : Int32} {x2 : Int32} {x3 : Int32} (V : VI c 0 0 h) (g0 : L c 7 x0) (g3 : 0 ≤ x3.toInt ∧ x3.toInt ≤ 1) (hZ : ∀ (o : xO) (g : xH), ((CI g ∧ x_pj g = c) ∧ (∃ v : Int32, o = .inl (some (.inl v)) ∧ 0 ≤ v.toInt ∧ v.toInt ≤ 1)) ∨ ((CI g ∧ x_pj g = c) ∧ o = .inr 1) → Z o g) : xC 1300 80 [.inr (.inr (7, x0)), .inl x1, .inl x2, .inl x3] h Z := by
  refine ⟨rfl, V.2.2.1, V.2.2.2, ?_⟩
  show xR _ 80 0 ([.inr (.inr (7, x0)), .inl x1, .inl x2, .inl x3, .inr (.inr (0, 0)), .inr (.inr (0, 0))], [], h) Z
  refine xR.blk c80_0 ?_
  refine q_aload rfl (by decide) ?_
  refine q_iload rfl ?_
  refine q_iload rfl ?_
  refine q_callv rfl (by decide) (V.lv g0) (Nat.le_of_ble_eq_true rfl) (Nat.le_of_ble_eq_true rfl) (by rw [V.2.2.1]; decide) (by rw [V.2.2.2]; decide) ?_
  refine xC.up (tw51 (x0 := x0) (x1 := x1) (x2 := x2) V.set g0 (fun o1 g2 hp => ?_)) (by omega)
  rcases hp with ⟨hg3, ⟨j4, rfl, f5, e6⟩⟩ | ⟨hg3, rfl⟩
  · skip
    have V7 := VI.after (mc := 1) (ms := 6) V hg3
    show x_seq _ _ _ _ ([.inr (.inr (7, x0)), .inl x1, .inl x2, .inl x3, .inr (.inr (0, 0)), .inr (.inr (0, 0))], [.inr (.inr (2, j4))], x_setc g2 (x_ce h + 1) (x_so h + 6))
    generalize x_setc g2 (x_ce h + 1) (x_so h + 6) = h8 at V7 ⊢
    refine q_astore (Nat.le_of_ble_eq_true rfl) ?_
    show x_seq _ _ _ _ ([.inr (.inr (7, x0)), .inl x1, .inl x2, .inl x3, .inr (.inr (2, j4)), .inr (.inr (0, 0))], [], h8)
    refine q_aload rfl (by decide) ?_
    refine q_gfr (V7.lv f5) ?_
    refine q_astore (Nat.le_of_ble_eq_true rfl) ?_
    show x_seq _ _ _ _ ([.inr (.inr (7, x0)), .inl x1, .inl x2, .inl x3, .inr (.inr (2, j4)), .inr (.inr (1, (x_vr h8 2 5 j4)))], [], h8)
    refine q_aload rfl (by decide) ?_
    refine q_ifnull (fun d9 => ?_) (fun d9 => ?_)
    · skip
      refine xR.blk c80_41 ?_
      refine v_iconst (k := 0) rfl (fun v10 e11 => ?_)
      exact q_zret (i32_01 (by omega)) (hZ _ _ (Or.inl ⟨⟨V7.1, V7.2.1⟩, ⟨_, rfl, by omega⟩⟩))
    · skip
      have f12 : L c 1 (x_vr h8 2 5 j4) := ⟨Nat.one_le_iff_ne_zero.mpr d9, (V7.nu (K := 2) (k := 5) (by decide) f5)⟩
      refine q_aload rfl (by decide) ?_
      refine q_gfr (V7.lv f12) ?_
      refine q_aload rfl (by decide) ?_
      refine q_ane (fun d13 => ?_) (fun d13 => ?_)
      · skip
        refine xR.blk c80_41 ?_
        refine v_iconst (k := 0) rfl (fun v14 e15 => ?_)
        exact q_zret (i32_01 (by omega)) (hZ _ _ (Or.inl ⟨⟨V7.1, V7.2.1⟩, ⟨_, rfl, by omega⟩⟩))
      · skip
        refine q_aload rfl (by decide) ?_
        refine q_gfr (V7.lv f12) ?_
        refine q_stage ?_
        refine q_aeq (fun d16 => ?_) (fun d16 => ?_)
        · skip
          refine xR.blk c80_43 ?_
          refine q_aload rfl (by decide) ?_
          refine q_iload rfl ?_
          refine v_pfz V7 rfl (i32_01 (by omega)) (fun lo hi hm => by simp only [x_rgl, List.mem_cons, Prod.mk.injEq, List.not_mem_nil, or_false] at hm; omega) rfl f12 (fun h17 V18 => ?_)
          refine q_iload rfl ?_
          refine v_if_ne (fun d19 => ?_) (fun d19 => ?_)
          · skip
            refine xR.blk c80_71 ?_
            refine v_iconst (k := 1) rfl (fun v20 e21 => ?_)
            exact q_zret (i32_01 (by omega)) (hZ _ _ (Or.inl ⟨⟨V18.1, V18.2.1⟩, ⟨_, rfl, by omega⟩⟩))
          · skip
            refine q_aload rfl (by decide) ?_
            refine v_gfrn V18 (by decide) rfl f12 (fun j22 f23 => ?_)
            refine v_gfi V18 f23 (fun v24 => ?_)
            refine v_if_ne (fun d26 => ?_) (fun d26 => ?_)
            · skip
              refine xR.blk c80_71 ?_
              refine v_iconst (k := 1) rfl (fun v27 e28 => ?_)
              exact q_zret (i32_01 (by omega)) (hZ _ _ (Or.inl ⟨⟨V18.1, V18.2.1⟩, ⟨_, rfl, by omega⟩⟩))
            · skip
              refine q_aload rfl (by decide) ?_
              refine q_aload rfl (by decide) ?_
              refine v_iconst (k := 3) rfl (fun v29 e30 => ?_)
              refine q_callv rfl (by decide) (V18.lv g0) (Nat.le_of_ble_eq_true rfl) (Nat.le_of_ble_eq_true rfl) (by rw [V18.2.2.1]; decide) (by rw [V18.2.2.2]; decide) ?_
              refine xC.up (tv59 (x0 := x0) (x1 := (x_vr h8 2 5 j4)) (x2 := v29) V18.set g0 f12 (fun o31 g32 hp => ?_)) (by omega)
              obtain ⟨hg33, rfl⟩ := hp
              have V36 := VI.after (mc := 0) (ms := 0) V18 hg33
              show x_seq _ _ _ _ ([.inr (.inr (7, x0)), .inl x1, .inl x2, .inl x3, .inr (.inr (2, j4)), .inr (.inr (1, (x_vr h8 2 5 j4)))], [], x_setc g32 (x_ce h17 + 0) (x_so h17 + 0))
              generalize x_setc g32 (x_ce h17 + 0) (x_so h17 + 0) = h37 at V36 ⊢
              refine q_goto ?_
              refine xR.blk c80_71 ?_
              refine v_iconst (k := 1) rfl (fun v38 e39 => ?_)
              exact q_zret (i32_01 (by omega)) (hZ _ _ (Or.inl ⟨⟨V36.1, V36.2.1⟩, ⟨_, rfl, by omega⟩⟩))
        · skip
          refine q_goto ?_
          refine xR.blk c80_41 ?_
          refine v_iconst (k := 0) rfl (fun v40 e41 => ?_)
          exact q_zret (i32_01 (by omega)) (hZ _ _ (Or.inl ⟨⟨V7.1, V7.2.1⟩, ⟨_, rfl, by omega⟩⟩))
  · exact hZ _ _ (Or.inr ⟨hg3, rfl⟩)
theorem tw81 {c : xP} {h : xH} {Z : xO → xH → Prop} {x0 : Nat} {x1 : Int32} {x2 : Int32} (V : VI c 0 0 h) (g0 : L c 7 x0) (hZ : ∀ (o : xO) (g : xH), ((CI g ∧ x_pj g = c) ∧ (∃ v : Int32, o = .inl (some (.inl v)))) ∨ ((CI g ∧ x_pj g = c) ∧ o = .inr 1) → Z o g) : xC 100 81 [.inr (.inr (7, x0)), .inl x1, .inl x2] h Z := by
  refine ⟨rfl, V.2.2.1, V.2.2.2, ?_⟩
  show xR _ 81 0 ([.inr (.inr (7, x0)), .inl x1, .inl x2], [], h) Z
  refine xR.blk c81_0 ?_
  refine q_aload rfl (by decide) ?_
  refine q_iload rfl ?_
  refine q_iload rfl ?_
  refine q_callv rfl (by decide) (V.lv g0) (Nat.le_of_ble_eq_true rfl) (Nat.le_of_ble_eq_true rfl) (by rw [V.2.2.1]; decide) (by rw [V.2.2.2]; decide) ?_
  refine xC.up (tw51 (x0 := x0) (x1 := x1) (x2 := x2) V.set g0 (fun o1 g2 hp => ?_)) (by omega)
  rcases hp with ⟨hg3, ⟨j4, rfl, f5, e6⟩⟩ | ⟨hg3, rfl⟩
  · skip
    have V7 := VI.after (mc := 1) (ms := 6) V hg3
    show x_seq _ _ _ _ ([.inr (.inr (7, x0)), .inl x1, .inl x2], [.inr (.inr (2, j4))], x_setc g2 (x_ce h + 1) (x_so h + 6))
    generalize x_setc g2 (x_ce h + 1) (x_so h + 6) = h8 at V7 ⊢
    refine v_gfi V7 f5 (fun v9 => ?_)
    exact q_iret (hZ _ _ (Or.inl ⟨⟨V7.1, V7.2.1⟩, ⟨_, rfl⟩⟩))
  · exact hZ _ _ (Or.inr ⟨hg3, rfl⟩)
theorem tw82 {c : xP} {h : xH} {Z : xO → xH → Prop} {x0 : Nat} {x1 : Int32} {x2 : Int32} (V : VI c 0 0 h) (g0 : L c 7 x0) (hZ : ∀ (o : xO) (g : xH), ((CI g ∧ x_pj g = c) ∧ (∃ v : Int32, o = .inl (some (.inl v)) ∧ 0 ≤ v.toInt ∧ v.toInt ≤ 1)) ∨ ((CI g ∧ x_pj g = c) ∧ o = .inr 1) → Z o g) : xC 100 82 [.inr (.inr (7, x0)), .inl x1, .inl x2] h Z := by
  refine ⟨rfl, V.2.2.1, V.2.2.2, ?_⟩
  show xR _ 82 0 ([.inr (.inr (7, x0)), .inl x1, .inl x2, .inr (.inr (0, 0)), .inr (.inr (0, 0))], [], h) Z
  refine xR.blk c82_0 ?_
  refine q_aload rfl (by decide) ?_
  refine q_iload rfl ?_
  refine q_iload rfl ?_
  refine q_callv rfl (by decide) (V.lv g0) (Nat.le_of_ble_eq_true rfl) (Nat.le_of_ble_eq_true rfl) (by rw [V.2.2.1]; decide) (by rw [V.2.2.2]; decide) ?_
  refine xC.up (tw51 (x0 := x0) (x1 := x1) (x2 := x2) V.set g0 (fun o1 g2 hp => ?_)) (by omega)
  rcases hp with ⟨hg3, ⟨j4, rfl, f5, e6⟩⟩ | ⟨hg3, rfl⟩
  · skip
    have V7 := VI.after (mc := 1) (ms := 6) V hg3
    show x_seq _ _ _ _ ([.inr (.inr (7, x0)), .inl x1, .inl x2, .inr (.inr (0, 0)), .inr (.inr (0, 0))], [.inr (.inr (2, j4))], x_setc g2 (x_ce h + 1) (x_so h + 6))
    generalize x_setc g2 (x_ce h + 1) (x_so h + 6) = h8 at V7 ⊢
    refine q_astore (Nat.le_of_ble_eq_true rfl) ?_
    show x_seq _ _ _ _ ([.inr (.inr (7, x0)), .inl x1, .inl x2, .inr (.inr (2, j4)), .inr (.inr (0, 0))], [], h8)
    refine q_aload rfl (by decide) ?_
    refine q_gfr (V7.lv f5) ?_
    refine q_astore (Nat.le_of_ble_eq_true rfl) ?_
    show x_seq _ _ _ _ ([.inr (.inr (7, x0)), .inl x1, .inl x2, .inr (.inr (2, j4)), .inr (.inr (1, (x_vr h8 2 5 j4)))], [], h8)
    refine q_aload rfl (by decide) ?_
    refine q_ifnull (fun d9 => ?_) (fun d9 => ?_)
    · skip
      refine xR.blk c82_42 ?_
      refine v_iconst (k := 0) rfl (fun v10 e11 => ?_)
      refine q_goto ?_
      refine xR.blk c82_43 ?_
      exact q_zret (i32_01 (by omega)) (hZ _ _ (Or.inl ⟨⟨V7.1, V7.2.1⟩, ⟨_, rfl, by omega⟩⟩))
    · skip
      have f12 : L c 1 (x_vr h8 2 5 j4) := ⟨Nat.one_le_iff_ne_zero.mpr d9, (V7.nu (K := 2) (k := 5) (by decide) f5)⟩
      refine q_aload rfl (by decide) ?_
      refine q_gfr (V7.lv f12) ?_
      refine q_aload rfl (by decide) ?_
      refine q_ane (fun d13 => ?_) (fun d13 => ?_)
      · skip
        refine xR.blk c82_42 ?_
        refine v_iconst (k := 0) rfl (fun v14 e15 => ?_)
        refine q_goto ?_
        refine xR.blk c82_43 ?_
        exact q_zret (i32_01 (by omega)) (hZ _ _ (Or.inl ⟨⟨V7.1, V7.2.1⟩, ⟨_, rfl, by omega⟩⟩))
      · skip
        refine q_aload rfl (by decide) ?_
        refine q_gfr (V7.lv f12) ?_
        refine q_stage ?_
        refine q_ane (fun d16 => ?_) (fun d16 => ?_)
        · skip
          refine xR.blk c82_42 ?_
          refine v_iconst (k := 0) rfl (fun v17 e18 => ?_)
          refine q_goto ?_
          refine xR.blk c82_43 ?_
          exact q_zret (i32_01 (by omega)) (hZ _ _ (Or.inl ⟨⟨V7.1, V7.2.1⟩, ⟨_, rfl, by omega⟩⟩))
        · skip
          refine v_iconst (k := 1) rfl (fun v19 e20 => ?_)
          refine q_goto ?_
          refine xR.blk c82_43 ?_
          exact q_zret (i32_01 (by omega)) (hZ _ _ (Or.inl ⟨⟨V7.1, V7.2.1⟩, ⟨_, rfl, by omega⟩⟩))
  · exact hZ _ _ (Or.inr ⟨hg3, rfl⟩)
theorem tw83 {c : xP} {h : xH} {Z : xO → xH → Prop} {x0 : Nat} {x1 : Int32} {x2 : Int32} (V : VI c 0 0 h) (g0 : L c 7 x0) (hZ : ∀ (o : xO) (g : xH), ((CI g ∧ x_pj g = c) ∧ (∃ v : Int32, o = .inl (some (.inl v)))) ∨ ((CI g ∧ x_pj g = c) ∧ o = .inr 1) → Z o g) : xC 200 83 [.inr (.inr (7, x0)), .inl x1, .inl x2] h Z := by
  refine ⟨rfl, V.2.2.1, V.2.2.2, ?_⟩
  show xR _ 83 0 ([.inr (.inr (7, x0)), .inl x1, .inl x2, .inr (.inr (0, 0)), .inr (.inr (0, 0))], [], h) Z
  refine xR.blk c83_0 ?_
  refine q_aload rfl (by decide) ?_
  refine q_iload rfl ?_
  refine q_iload rfl ?_
  refine q_callv rfl (by decide) (V.lv g0) (Nat.le_of_ble_eq_true rfl) (Nat.le_of_ble_eq_true rfl) (by rw [V.2.2.1]; decide) (by rw [V.2.2.2]; decide) ?_
  refine xC.up (tw51 (x0 := x0) (x1 := x1) (x2 := x2) V.set g0 (fun o1 g2 hp => ?_)) (by omega)
  rcases hp with ⟨hg3, ⟨j4, rfl, f5, e6⟩⟩ | ⟨hg3, rfl⟩
  · skip
    have V7 := VI.after (mc := 1) (ms := 6) V hg3
    show x_seq _ _ _ _ ([.inr (.inr (7, x0)), .inl x1, .inl x2, .inr (.inr (0, 0)), .inr (.inr (0, 0))], [.inr (.inr (2, j4))], x_setc g2 (x_ce h + 1) (x_so h + 6))
    generalize x_setc g2 (x_ce h + 1) (x_so h + 6) = h8 at V7 ⊢
    refine q_astore (Nat.le_of_ble_eq_true rfl) ?_
    show x_seq _ _ _ _ ([.inr (.inr (7, x0)), .inl x1, .inl x2, .inr (.inr (2, j4)), .inr (.inr (0, 0))], [], h8)
    refine q_aload rfl (by decide) ?_
    refine q_gfr (V7.lv f5) ?_
    refine q_astore (Nat.le_of_ble_eq_true rfl) ?_
    show x_seq _ _ _ _ ([.inr (.inr (7, x0)), .inl x1, .inl x2, .inr (.inr (2, j4)), .inr (.inr (1, (x_vr h8 2 5 j4)))], [], h8)
    refine q_aload rfl (by decide) ?_
    refine q_ifnull (fun d9 => ?_) (fun d9 => ?_)
    · skip
      refine xR.blk c83_48 ?_
      refine v_iconst (k := -1) rfl (fun v10 e11 => ?_)
      exact q_iret (hZ _ _ (Or.inl ⟨⟨V7.1, V7.2.1⟩, ⟨_, rfl⟩⟩))
    · skip
      have f12 : L c 1 (x_vr h8 2 5 j4) := ⟨Nat.one_le_iff_ne_zero.mpr d9, (V7.nu (K := 2) (k := 5) (by decide) f5)⟩
      refine q_aload rfl (by decide) ?_
      refine q_gfr (V7.lv f12) ?_
      refine q_stage ?_
      refine q_ane (fun d13 => ?_) (fun d13 => ?_)
      · skip
        refine xR.blk c83_48 ?_
        refine v_iconst (k := -1) rfl (fun v14 e15 => ?_)
        exact q_iret (hZ _ _ (Or.inl ⟨⟨V7.1, V7.2.1⟩, ⟨_, rfl⟩⟩))
      · skip
        refine q_aload rfl (by decide) ?_
        refine v_gfrn V7 (by decide) rfl f12 (fun j16 f17 => ?_)
        refine v_gfi V7 f17 (fun v18 => ?_)
        refine v_if_eq (fun d20 => ?_) (fun d20 => ?_)
        · skip
          refine xR.blk c83_48 ?_
          refine v_iconst (k := -1) rfl (fun v21 e22 => ?_)
          exact q_iret (hZ _ _ (Or.inl ⟨⟨V7.1, V7.2.1⟩, ⟨_, rfl⟩⟩))
        · skip
          refine q_aload rfl (by decide) ?_
          refine q_callv rfl (by decide) (V7.lv f12) (Nat.le_of_ble_eq_true rfl) (Nat.le_of_ble_eq_true rfl) (by rw [V7.2.2.1]; decide) (by rw [V7.2.2.2]; decide) ?_
          refine xC.up (tv5 (x0 := (x_vr h8 2 5 j4)) V7.set f12 (fun o23 g24 hp => ?_)) (by omega)
          obtain ⟨rfl, ⟨v26, rfl, f27⟩⟩ := hp
          have e28 : v26.toInt = 0 ∨ 1 ≤ (x_vr h8 1 3 (x_vr h8 2 5 j4)) := f27.2.2
          show x_seq _ _ _ _ ([.inr (.inr (7, x0)), .inl x1, .inl x2, .inr (.inr (2, j4)), .inr (.inr (1, (x_vr h8 2 5 j4)))], [.inl v26], h8)
          refine v_if_ne (fun d29 => ?_) (fun d29 => ?_)
          · skip
            refine xR.blk c83_50 ?_
            refine q_aload rfl (by decide) ?_
            refine q_gfr (V7.lv f12) ?_
            refine q_aload rfl (by decide) ?_
            refine q_ane (fun d30 => ?_) (fun d30 => ?_)
            · skip
              refine xR.blk c83_70 ?_
              refine q_aload rfl (by decide) ?_
              refine q_gfr (V7.lv f12) ?_
              refine q_callv rfl (by decide) (V7.lv (⟨by omega, V7.nu (K := 1) (k := 3) (by decide) f12⟩ : L c 2 (x_vr h8 1 3 (x_vr h8 2 5 j4)))) (Nat.le_of_ble_eq_true rfl) (Nat.le_of_ble_eq_true rfl) (by rw [V7.2.2.1]; decide) (by rw [V7.2.2.2]; decide) ?_
              refine xC.up (tv9 (x0 := (x_vr h8 1 3 (x_vr h8 2 5 j4))) V7.set (⟨by omega, V7.nu (K := 1) (k := 3) (by decide) f12⟩ : L c 2 (x_vr h8 1 3 (x_vr h8 2 5 j4))) (fun o31 g32 hp => ?_)) (by omega)
              obtain ⟨rfl, ⟨v34, rfl, f35⟩⟩ := hp
              show x_seq _ _ _ _ ([.inr (.inr (7, x0)), .inl x1, .inl x2, .inr (.inr (2, j4)), .inr (.inr (1, (x_vr h8 2 5 j4)))], [.inl v34], h8)
              refine q_goto ?_
              refine xR.blk c83_78 ?_
              exact q_iret (hZ _ _ (Or.inl ⟨⟨V7.1, V7.2.1⟩, ⟨_, rfl⟩⟩))
            · skip
              refine q_aload rfl (by decide) ?_
              refine v_gfrn V7 (by decide) rfl f12 (fun j36 f37 => ?_)
              refine q_callv rfl (by decide) (V7.lv f37) (Nat.le_of_ble_eq_true rfl) (Nat.le_of_ble_eq_true rfl) (by rw [V7.2.2.1]; decide) (by rw [V7.2.2.2]; decide) ?_
              refine xC.up (tv9 (x0 := j36) V7.set f37 (fun o38 g39 hp => ?_)) (by omega)
              obtain ⟨rfl, ⟨v41, rfl, f42⟩⟩ := hp
              show x_seq _ _ _ _ ([.inr (.inr (7, x0)), .inl x1, .inl x2, .inr (.inr (2, j4)), .inr (.inr (1, (x_vr h8 2 5 j4)))], [.inl v41], h8)
              refine q_goto ?_
              refine xR.blk c83_78 ?_
              exact q_iret (hZ _ _ (Or.inl ⟨⟨V7.1, V7.2.1⟩, ⟨_, rfl⟩⟩))
          · skip
            refine q_goto ?_
            refine xR.blk c83_48 ?_
            refine v_iconst (k := -1) rfl (fun v43 e44 => ?_)
            exact q_iret (hZ _ _ (Or.inl ⟨⟨V7.1, V7.2.1⟩, ⟨_, rfl⟩⟩))
  · exact hZ _ _ (Or.inr ⟨hg3, rfl⟩)
theorem tw84 {c : xP} {h : xH} {Z : xO → xH → Prop} {x0 : Nat} {x1 : Int32} {x2 : Int32} (V : VI c 0 0 h) (g0 : L c 7 x0) (hZ : ∀ (o : xO) (g : xH), ((CI g ∧ x_pj g = c) ∧ (∃ v : Int32, o = .inl (some (.inl v)))) ∨ ((CI g ∧ x_pj g = c) ∧ o = .inr 1) → Z o g) : xC 100 84 [.inr (.inr (7, x0)), .inl x1, .inl x2] h Z := by
  refine ⟨rfl, V.2.2.1, V.2.2.2, ?_⟩
  show xR _ 84 0 ([.inr (.inr (7, x0)), .inl x1, .inl x2], [], h) Z
  refine xR.blk c84_0 ?_
  refine q_aload rfl (by decide) ?_
  refine q_iload rfl ?_
  refine q_iload rfl ?_
  refine q_callv rfl (by decide) (V.lv g0) (Nat.le_of_ble_eq_true rfl) (Nat.le_of_ble_eq_true rfl) (by rw [V.2.2.1]; decide) (by rw [V.2.2.2]; decide) ?_
  refine xC.up (tw51 (x0 := x0) (x1 := x1) (x2 := x2) V.set g0 (fun o1 g2 hp => ?_)) (by omega)
  rcases hp with ⟨hg3, ⟨j4, rfl, f5, e6⟩⟩ | ⟨hg3, rfl⟩
  · skip
    have V7 := VI.after (mc := 1) (ms := 6) V hg3
    show x_seq _ _ _ _ ([.inr (.inr (7, x0)), .inl x1, .inl x2], [.inr (.inr (2, j4))], x_setc g2 (x_ce h + 1) (x_so h + 6))
    generalize x_setc g2 (x_ce h + 1) (x_so h + 6) = h8 at V7 ⊢
    refine v_gfi V7 f5 (fun v9 => ?_)
    exact q_iret (hZ _ _ (Or.inl ⟨⟨V7.1, V7.2.1⟩, ⟨_, rfl⟩⟩))
  · exact hZ _ _ (Or.inr ⟨hg3, rfl⟩)
theorem tw85 {c : xP} {h : xH} {Z : xO → xH → Prop} {x0 : Nat} {x1 : Int32} {x2 : Int32} {x3 : Int32} (V : VI c 0 0 h) (g0 : L c 7 x0) (hZ : ∀ (o : xO) (g : xH), ((CI g ∧ x_pj g = c) ∧ (∃ v : Int32, o = .inl (some (.inl v)))) ∨ ((CI g ∧ x_pj g = c) ∧ o = .inr 1) → Z o g) : xC 200 85 [.inr (.inr (7, x0)), .inl x1, .inl x2, .inl x3] h Z := by
  refine ⟨rfl, V.2.2.1, V.2.2.2, ?_⟩
  show xR _ 85 0 ([.inr (.inr (7, x0)), .inl x1, .inl x2, .inl x3, .inr (.inr (0, 0)), .inr (.inr (0, 0))], [], h) Z
  refine xR.blk c85_0 ?_
  refine q_aload rfl (by decide) ?_
  refine q_iload rfl ?_
  refine q_iload rfl ?_
  refine q_callv rfl (by decide) (V.lv g0) (Nat.le_of_ble_eq_true rfl) (Nat.le_of_ble_eq_true rfl) (by rw [V.2.2.1]; decide) (by rw [V.2.2.2]; decide) ?_
  refine xC.up (tw51 (x0 := x0) (x1 := x1) (x2 := x2) V.set g0 (fun o1 g2 hp => ?_)) (by omega)
  rcases hp with ⟨hg3, ⟨j4, rfl, f5, e6⟩⟩ | ⟨hg3, rfl⟩
  · skip
    have V7 := VI.after (mc := 1) (ms := 6) V hg3
    show x_seq _ _ _ _ ([.inr (.inr (7, x0)), .inl x1, .inl x2, .inl x3, .inr (.inr (0, 0)), .inr (.inr (0, 0))], [.inr (.inr (2, j4))], x_setc g2 (x_ce h + 1) (x_so h + 6))
    generalize x_setc g2 (x_ce h + 1) (x_so h + 6) = h8 at V7 ⊢
    refine q_astore (Nat.le_of_ble_eq_true rfl) ?_
    show x_seq _ _ _ _ ([.inr (.inr (7, x0)), .inl x1, .inl x2, .inl x3, .inr (.inr (2, j4)), .inr (.inr (0, 0))], [], h8)
    refine q_iload rfl ?_
    refine v_if_lt (fun d9 => ?_) (fun d9 => ?_)
    · skip
      refine xR.blk c85_16 ?_
      refine v_iconst (k := 0) rfl (fun v10 e11 => ?_)
      refine q_goto ?_
      refine xR.blk c85_17 ?_
      refine q_call (Nat.le_of_ble_eq_true rfl) (Nat.le_of_ble_eq_true rfl) (by rw [V7.2.2.1]; decide) (by rw [V7.2.2.2]; decide) ?_
      refine xC.up (tw45 (x0 := v10) V7.set  (fun o12 g13 hp => ?_)) (by omega)
      rcases hp with ⟨rfl, rfl, f16⟩ | ⟨hg14, rfl, f9⟩
      · skip
        have V17 : VI c 2 12 (x_setc (x_setc h8 0 0) (x_ce h8 + 1) (x_so h8 + 6)) := VI.after (mc := 1) (ms := 6) V7 ⟨V7.1, V7.2.1⟩
        show x_seq _ _ _ _ ([.inr (.inr (7, x0)), .inl x1, .inl x2, .inl x3, .inr (.inr (2, j4)), .inr (.inr (0, 0))], [], (x_setc (x_setc h8 0 0) (x_ce h8 + 1) (x_so h8 + 6)))
        refine q_aload rfl (by decide) ?_
        refine q_gfr (V17.lv f5) ?_
        show x_seq _ _ _ _ ([.inr (.inr (7, x0)), .inl x1, .inl x2, .inl x3, .inr (.inr (2, j4)), .inr (.inr (0, 0))], [.inr (.inr (1, (x_vr h8 2 5 j4)))], (x_setc (x_setc h8 0 0) (x_ce h8 + 1) (x_so h8 + 6)))
        refine q_astore (Nat.le_of_ble_eq_true rfl) ?_
        show x_seq _ _ _ _ ([.inr (.inr (7, x0)), .inl x1, .inl x2, .inl x3, .inr (.inr (2, j4)), .inr (.inr (1, (x_vr h8 2 5 j4)))], [], (x_setc (x_setc h8 0 0) (x_ce h8 + 1) (x_so h8 + 6)))
        refine q_aload rfl (by decide) ?_
        refine q_ifnull (fun d18 => ?_) (fun d18 => ?_)
        · skip
          refine xR.blk c85_54 ?_
          refine v_iconst (k := -1) rfl (fun v19 e20 => ?_)
          refine q_goto ?_
          refine xR.blk c85_55 ?_
          exact q_iret (hZ _ _ (Or.inl ⟨⟨V17.1, V17.2.1⟩, ⟨_, rfl⟩⟩))
        · skip
          have f21 : L c 1 (x_vr h8 2 5 j4) := ⟨Nat.one_le_iff_ne_zero.mpr d18, (V17.nu (K := 2) (k := 5) (by decide) f5)⟩
          refine q_aload rfl (by decide) ?_
          refine v_gfrn V17 (by decide) rfl f21 (fun j22 f23 => ?_)
          refine q_aload rfl (by decide) ?_
          refine q_ane (fun d24 => ?_) (fun d24 => ?_)
          · skip
            refine xR.blk c85_54 ?_
            refine v_iconst (k := -1) rfl (fun v25 e26 => ?_)
            refine q_goto ?_
            refine xR.blk c85_55 ?_
            exact q_iret (hZ _ _ (Or.inl ⟨⟨V17.1, V17.2.1⟩, ⟨_, rfl⟩⟩))
          · skip
            refine q_aload rfl (by decide) ?_
            refine v_gfrn V17 (by decide) rfl f21 (fun j27 f28 => ?_)
            refine q_iload rfl ?_
            refine q_callv rfl (by decide) (V17.lv f28) (Nat.le_of_ble_eq_true rfl) (Nat.le_of_ble_eq_true rfl) (by rw [V17.2.2.1]; decide) (by rw [V17.2.2.2]; decide) ?_
            refine xC.up (tv23 (x0 := j27) (x1 := x3) V17.set f28 (fun o29 g30 hp => ?_)) (by omega)
            obtain ⟨rfl, ⟨v32, rfl⟩⟩ := hp
            show x_seq _ _ _ _ ([.inr (.inr (7, x0)), .inl x1, .inl x2, .inl x3, .inr (.inr (2, j4)), .inr (.inr (1, (x_vr h8 2 5 j4)))], [.inl v32], (x_setc (x_setc h8 0 0) (x_ce h8 + 1) (x_so h8 + 6)))
            refine q_goto ?_
            refine xR.blk c85_55 ?_
            exact q_iret (hZ _ _ (Or.inl ⟨⟨V17.1, V17.2.1⟩, ⟨_, rfl⟩⟩))
      · exact hZ _ _ (Or.inr ⟨hg14, rfl⟩)
    · skip
      refine v_iconst (k := 1) rfl (fun v34 e35 => ?_)
      refine q_goto ?_
      refine xR.blk c85_17 ?_
      refine q_call (Nat.le_of_ble_eq_true rfl) (Nat.le_of_ble_eq_true rfl) (by rw [V7.2.2.1]; decide) (by rw [V7.2.2.2]; decide) ?_
      refine xC.up (tw45 (x0 := v34) V7.set  (fun o36 g37 hp => ?_)) (by omega)
      rcases hp with ⟨rfl, rfl, f40⟩ | ⟨hg38, rfl, f9⟩
      · skip
        have V41 : VI c 2 12 (x_setc (x_setc h8 0 0) (x_ce h8 + 1) (x_so h8 + 6)) := VI.after (mc := 1) (ms := 6) V7 ⟨V7.1, V7.2.1⟩
        show x_seq _ _ _ _ ([.inr (.inr (7, x0)), .inl x1, .inl x2, .inl x3, .inr (.inr (2, j4)), .inr (.inr (0, 0))], [], (x_setc (x_setc h8 0 0) (x_ce h8 + 1) (x_so h8 + 6)))
        refine q_aload rfl (by decide) ?_
        refine q_gfr (V41.lv f5) ?_
        show x_seq _ _ _ _ ([.inr (.inr (7, x0)), .inl x1, .inl x2, .inl x3, .inr (.inr (2, j4)), .inr (.inr (0, 0))], [.inr (.inr (1, (x_vr h8 2 5 j4)))], (x_setc (x_setc h8 0 0) (x_ce h8 + 1) (x_so h8 + 6)))
        refine q_astore (Nat.le_of_ble_eq_true rfl) ?_
        show x_seq _ _ _ _ ([.inr (.inr (7, x0)), .inl x1, .inl x2, .inl x3, .inr (.inr (2, j4)), .inr (.inr (1, (x_vr h8 2 5 j4)))], [], (x_setc (x_setc h8 0 0) (x_ce h8 + 1) (x_so h8 + 6)))
        refine q_aload rfl (by decide) ?_
        refine q_ifnull (fun d42 => ?_) (fun d42 => ?_)
        · skip
          refine xR.blk c85_54 ?_
          refine v_iconst (k := -1) rfl (fun v43 e44 => ?_)
          refine q_goto ?_
          refine xR.blk c85_55 ?_
          exact q_iret (hZ _ _ (Or.inl ⟨⟨V41.1, V41.2.1⟩, ⟨_, rfl⟩⟩))
        · skip
          have f45 : L c 1 (x_vr h8 2 5 j4) := ⟨Nat.one_le_iff_ne_zero.mpr d42, (V41.nu (K := 2) (k := 5) (by decide) f5)⟩
          refine q_aload rfl (by decide) ?_
          refine v_gfrn V41 (by decide) rfl f45 (fun j46 f47 => ?_)
          refine q_aload rfl (by decide) ?_
          refine q_ane (fun d48 => ?_) (fun d48 => ?_)
          · skip
            refine xR.blk c85_54 ?_
            refine v_iconst (k := -1) rfl (fun v49 e50 => ?_)
            refine q_goto ?_
            refine xR.blk c85_55 ?_
            exact q_iret (hZ _ _ (Or.inl ⟨⟨V41.1, V41.2.1⟩, ⟨_, rfl⟩⟩))
          · skip
            refine q_aload rfl (by decide) ?_
            refine v_gfrn V41 (by decide) rfl f45 (fun j51 f52 => ?_)
            refine q_iload rfl ?_
            refine q_callv rfl (by decide) (V41.lv f52) (Nat.le_of_ble_eq_true rfl) (Nat.le_of_ble_eq_true rfl) (by rw [V41.2.2.1]; decide) (by rw [V41.2.2.2]; decide) ?_
            refine xC.up (tv23 (x0 := j51) (x1 := x3) V41.set f52 (fun o53 g54 hp => ?_)) (by omega)
            obtain ⟨rfl, ⟨v56, rfl⟩⟩ := hp
            show x_seq _ _ _ _ ([.inr (.inr (7, x0)), .inl x1, .inl x2, .inl x3, .inr (.inr (2, j4)), .inr (.inr (1, (x_vr h8 2 5 j4)))], [.inl v56], (x_setc (x_setc h8 0 0) (x_ce h8 + 1) (x_so h8 + 6)))
            refine q_goto ?_
            refine xR.blk c85_55 ?_
            exact q_iret (hZ _ _ (Or.inl ⟨⟨V41.1, V41.2.1⟩, ⟨_, rfl⟩⟩))
      · exact hZ _ _ (Or.inr ⟨hg38, rfl⟩)
  · exact hZ _ _ (Or.inr ⟨hg3, rfl⟩)
theorem tw87 {c : xP} {h : xH} {Z : xO → xH → Prop} {x0 : Nat} {x1 : Int32} {x2 : Int32} (V : VI c 0 0 h) (g0 : L c 7 x0) (hZ : ∀ (o : xO) (g : xH), ((CI g ∧ x_pj g = c) ∧ (∃ v : Int32, o = .inl (some (.inl v)))) ∨ ((CI g ∧ x_pj g = c) ∧ o = .inr 1) → Z o g) : xC 1000 87 [.inr (.inr (7, x0)), .inl x1, .inl x2] h Z := by
  refine ⟨rfl, V.2.2.1, V.2.2.2, ?_⟩
  show xR _ 87 0 ([.inr (.inr (7, x0)), .inl x1, .inl x2, .inr (.inr (0, 0))], [], h) Z
  refine xR.blk c87_0 ?_
  refine q_iload rfl ?_
  refine q_call (Nat.le_of_ble_eq_true rfl) (Nat.le_of_ble_eq_true rfl) (by rw [V.2.2.1]; decide) (by rw [V.2.2.2]; decide) ?_
  refine xC.up (tv44 (x0 := x1) V.set  (fun o1 g2 hp => ?_)) (by omega)
  obtain ⟨rfl, ⟨v4, rfl, f5⟩⟩ := hp
  show x_seq _ _ _ _ ([.inr (.inr (7, x0)), .inl x1, .inl x2, .inr (.inr (0, 0))], [.inl v4], h)
  refine q_call (Nat.le_of_ble_eq_true rfl) (Nat.le_of_ble_eq_true rfl) (by rw [V.2.2.1]; decide) (by rw [V.2.2.2]; decide) ?_
  refine xC.up (tw45 (x0 := v4) V.set  (fun o6 g7 hp => ?_)) (by omega)
  rcases hp with ⟨rfl, rfl, f10⟩ | ⟨hg8, rfl, f9⟩
  · skip
    have V11 : VI c 1 6 (x_setc (x_setc h 0 0) (x_ce h + 1) (x_so h + 6)) := VI.after (mc := 1) (ms := 6) V ⟨V.1, V.2.1⟩
    show x_seq _ _ _ _ ([.inr (.inr (7, x0)), .inl x1, .inl x2, .inr (.inr (0, 0))], [], (x_setc (x_setc h 0 0) (x_ce h + 1) (x_so h + 6)))
    refine q_aload rfl (by decide) ?_
    refine v_gfrn V11 (by decide) rfl g0 (fun j12 f13 => ?_)
    refine q_iload rfl ?_
    refine v_aaldn V11 (L' := 3) (by decide) (by decide) rfl f13 (by omega) (by omega) (fun j14 f15 => ?_)
    refine q_astore (Nat.le_of_ble_eq_true rfl) ?_
    show x_seq _ _ _ _ ([.inr (.inr (7, x0)), .inl x1, .inl x2, .inr (.inr (3, j14))], [], (x_setc (x_setc h 0 0) (x_ce h + 1) (x_so h + 6)))
    refine q_iload rfl ?_
    refine ⟨fun k9 a9 hk9 hx9 => ?_, fun hx9 => ?_⟩
    · have hlt9 := (List.getElem?_eq_some_iff.mp hk9).1
      rcases (show k9 = 0 ∨ k9 = 1 ∨ k9 = 2 ∨ k9 = 3 ∨ k9 = 4 ∨ k9 = 5 by simp at hlt9; omega) with rfl | rfl | rfl | rfl | rfl | rfl
      · cases hk9
        show xR _ 87 52 ([.inr (.inr (7, x0)), .inl x1, .inl x2, .inr (.inr (3, j14))], [], (x_setc (x_setc h 0 0) (x_ce h + 1) (x_so h + 6))) Z
        refine xR.blk c87_52 ?_
        refine q_aload rfl (by decide) ?_
        refine v_iconst (k := 30) rfl (fun v16 e17 => ?_)
        refine v_iconst (k := 33) rfl (fun v18 e19 => ?_)
        refine q_callv rfl (by decide) (V11.lv f15) (Nat.le_of_ble_eq_true rfl) (Nat.le_of_ble_eq_true rfl) (by rw [V11.2.2.1]; decide) (by rw [V11.2.2.2]; decide) ?_
        refine xC.up (tv30 (x0 := j14) (x1 := v16) (x2 := v18) V11.set f15 (by omega) (by omega) (fun o20 g21 hp => ?_)) (by omega)
        obtain ⟨rfl, ⟨v23, rfl⟩⟩ := hp
        show x_seq _ _ _ _ ([.inr (.inr (7, x0)), .inl x1, .inl x2, .inr (.inr (3, j14))], [.inl v23], (x_setc (x_setc h 0 0) (x_ce h + 1) (x_so h + 6)))
        exact q_iret (hZ _ _ (Or.inl ⟨⟨V11.1, V11.2.1⟩, ⟨_, rfl⟩⟩))
      · cases hk9
        show xR _ 87 61 ([.inr (.inr (7, x0)), .inl x1, .inl x2, .inr (.inr (3, j14))], [], (x_setc (x_setc h 0 0) (x_ce h + 1) (x_so h + 6))) Z
        refine xR.blk c87_61 ?_
        refine q_aload rfl (by decide) ?_
        refine v_iconst (k := 0) rfl (fun v25 e26 => ?_)
        refine v_iconst (k := 12) rfl (fun v27 e28 => ?_)
        refine q_callv rfl (by decide) (V11.lv f15) (Nat.le_of_ble_eq_true rfl) (Nat.le_of_ble_eq_true rfl) (by rw [V11.2.2.1]; decide) (by rw [V11.2.2.2]; decide) ?_
        refine xC.up (tv30 (x0 := j14) (x1 := v25) (x2 := v27) V11.set f15 (by omega) (by omega) (fun o29 g30 hp => ?_)) (by omega)
        obtain ⟨rfl, ⟨v32, rfl⟩⟩ := hp
        show x_seq _ _ _ _ ([.inr (.inr (7, x0)), .inl x1, .inl x2, .inr (.inr (3, j14))], [.inl v32], (x_setc (x_setc h 0 0) (x_ce h + 1) (x_so h + 6)))
        exact q_iret (hZ _ _ (Or.inl ⟨⟨V11.1, V11.2.1⟩, ⟨_, rfl⟩⟩))
      · cases hk9
        show xR _ 87 69 ([.inr (.inr (7, x0)), .inl x1, .inl x2, .inr (.inr (3, j14))], [], (x_setc (x_setc h 0 0) (x_ce h + 1) (x_so h + 6))) Z
        refine xR.blk c87_69 ?_
        refine q_aload rfl (by decide) ?_
        refine v_iconst (k := 20) rfl (fun v34 e35 => ?_)
        refine v_iconst (k := 25) rfl (fun v36 e37 => ?_)
        refine q_callv rfl (by decide) (V11.lv f15) (Nat.le_of_ble_eq_true rfl) (Nat.le_of_ble_eq_true rfl) (by rw [V11.2.2.1]; decide) (by rw [V11.2.2.2]; decide) ?_
        refine xC.up (tv30 (x0 := j14) (x1 := v34) (x2 := v36) V11.set f15 (by omega) (by omega) (fun o38 g39 hp => ?_)) (by omega)
        obtain ⟨rfl, ⟨v41, rfl⟩⟩ := hp
        show x_seq _ _ _ _ ([.inr (.inr (7, x0)), .inl x1, .inl x2, .inr (.inr (3, j14))], [.inl v41], (x_setc (x_setc h 0 0) (x_ce h + 1) (x_so h + 6)))
        exact q_iret (hZ _ _ (Or.inl ⟨⟨V11.1, V11.2.1⟩, ⟨_, rfl⟩⟩))
      · cases hk9
        show xR _ 87 78 ([.inr (.inr (7, x0)), .inl x1, .inl x2, .inr (.inr (3, j14))], [], (x_setc (x_setc h 0 0) (x_ce h + 1) (x_so h + 6))) Z
        refine xR.blk c87_78 ?_
        refine q_aload rfl (by decide) ?_
        refine q_iload rfl ?_
        refine q_callv rfl (by decide) (V11.lv g0) (Nat.le_of_ble_eq_true rfl) (Nat.le_of_ble_eq_true rfl) (by rw [V11.2.2.1]; decide) (by rw [V11.2.2.2]; decide) ?_
        refine xC.up (tv86 (x0 := x0) (x1 := x1) V11.set g0 (fun o43 g44 hp => ?_)) (by omega)
        obtain ⟨rfl, ⟨v46, rfl⟩⟩ := hp
        show x_seq _ _ _ _ ([.inr (.inr (7, x0)), .inl x1, .inl x2, .inr (.inr (3, j14))], [.inl v46], (x_setc (x_setc h 0 0) (x_ce h + 1) (x_so h + 6)))
        exact q_iret (hZ _ _ (Or.inl ⟨⟨V11.1, V11.2.1⟩, ⟨_, rfl⟩⟩))
      · cases hk9
        show xR _ 87 84 ([.inr (.inr (7, x0)), .inl x1, .inl x2, .inr (.inr (3, j14))], [], (x_setc (x_setc h 0 0) (x_ce h + 1) (x_so h + 6))) Z
        refine xR.blk c87_84 ?_
        refine q_aload rfl (by decide) ?_
        refine v_gfrn V11 (by decide) rfl f15 (fun j48 f49 => ?_)
        refine q_callv rfl (by decide) (V11.lv f49) (Nat.le_of_ble_eq_true rfl) (Nat.le_of_ble_eq_true rfl) (by rw [V11.2.2.1]; decide) (by rw [V11.2.2.2]; decide) ?_
        refine xC.up (tv24 (x0 := j48) V11.set f49 (fun o50 g51 hp => ?_)) (by omega)
        obtain ⟨rfl, ⟨v53, rfl, f54⟩⟩ := hp
        show x_seq _ _ _ _ ([.inr (.inr (7, x0)), .inl x1, .inl x2, .inr (.inr (3, j14))], [.inl v53], (x_setc (x_setc h 0 0) (x_ce h + 1) (x_so h + 6)))
        exact q_iret (hZ _ _ (Or.inl ⟨⟨V11.1, V11.2.1⟩, ⟨_, rfl⟩⟩))
      · cases hk9
        show xR _ 87 92 ([.inr (.inr (7, x0)), .inl x1, .inl x2, .inr (.inr (3, j14))], [], (x_setc (x_setc h 0 0) (x_ce h + 1) (x_so h + 6))) Z
        refine xR.blk c87_92 ?_
        refine q_aload rfl (by decide) ?_
        refine v_gfrn V11 (by decide) rfl f15 (fun j55 f56 => ?_)
        refine q_callv rfl (by decide) (V11.lv f56) (Nat.le_of_ble_eq_true rfl) (Nat.le_of_ble_eq_true rfl) (by rw [V11.2.2.1]; decide) (by rw [V11.2.2.2]; decide) ?_
        refine xC.up (tv24 (x0 := j55) V11.set f56 (fun o57 g58 hp => ?_)) (by omega)
        obtain ⟨rfl, ⟨v60, rfl, f61⟩⟩ := hp
        show x_seq _ _ _ _ ([.inr (.inr (7, x0)), .inl x1, .inl x2, .inr (.inr (3, j14))], [.inl v60], (x_setc (x_setc h 0 0) (x_ce h + 1) (x_so h + 6)))
        exact q_iret (hZ _ _ (Or.inl ⟨⟨V11.1, V11.2.1⟩, ⟨_, rfl⟩⟩))
    · skip
      show xR _ 87 100 ([.inr (.inr (7, x0)), .inl x1, .inl x2, .inr (.inr (3, j14))], [], (x_setc (x_setc h 0 0) (x_ce h + 1) (x_so h + 6))) Z
      refine xR.blk c87_100 ?_
      exact q_throw (Nat.le_of_ble_eq_true rfl) (by rw [V11.2.2.1]; decide) (by rw [V11.2.2.2]; decide) (fun d => hZ _ _ (Or.inr ⟨V11.exc, rfl⟩))
  · exact hZ _ _ (Or.inr ⟨hg8, rfl⟩)
theorem tw88 {c : xP} {h : xH} {Z : xO → xH → Prop} {x0 : Nat} {x1 : Int32} {x2 : Int32} (V : VI c 0 0 h) (g0 : L c 7 x0) (hZ : ∀ (o : xO) (g : xH), ((CI g ∧ x_pj g = c) ∧ (∃ v : Int32, o = .inl (some (.inl v)))) ∨ ((CI g ∧ x_pj g = c) ∧ o = .inr 1) → Z o g) : xC 100 88 [.inr (.inr (7, x0)), .inl x1, .inl x2] h Z := by
  refine ⟨rfl, V.2.2.1, V.2.2.2, ?_⟩
  show xR _ 88 0 ([.inr (.inr (7, x0)), .inl x1, .inl x2], [], h) Z
  refine xR.blk c88_0 ?_
  refine q_iload rfl ?_
  refine q_call (Nat.le_of_ble_eq_true rfl) (Nat.le_of_ble_eq_true rfl) (by rw [V.2.2.1]; decide) (by rw [V.2.2.2]; decide) ?_
  refine xC.up (tv44 (x0 := x1) V.set  (fun o1 g2 hp => ?_)) (by omega)
  obtain ⟨rfl, ⟨v4, rfl, f5⟩⟩ := hp
  show x_seq _ _ _ _ ([.inr (.inr (7, x0)), .inl x1, .inl x2], [.inl v4], h)
  refine v_if_eq (fun d6 => ?_) (fun d6 => ?_)
  · skip
    refine xR.blk c88_18 ?_
    refine v_iconst (k := 0) rfl (fun v7 e8 => ?_)
    refine q_goto ?_
    refine xR.blk c88_19 ?_
    refine q_call (Nat.le_of_ble_eq_true rfl) (Nat.le_of_ble_eq_true rfl) (by rw [V.2.2.1]; decide) (by rw [V.2.2.2]; decide) ?_
    refine xC.up (tw45 (x0 := v7) V.set  (fun o9 g10 hp => ?_)) (by omega)
    rcases hp with ⟨rfl, rfl, f13⟩ | ⟨hg11, rfl, f9⟩
    · skip
      have V14 : VI c 1 6 (x_setc (x_setc h 0 0) (x_ce h + 1) (x_so h + 6)) := VI.after (mc := 1) (ms := 6) V ⟨V.1, V.2.1⟩
      show x_seq _ _ _ _ ([.inr (.inr (7, x0)), .inl x1, .inl x2], [], (x_setc (x_setc h 0 0) (x_ce h + 1) (x_so h + 6)))
      refine q_aload rfl (by decide) ?_
      refine v_gfrn V14 (by decide) rfl g0 (fun j15 f16 => ?_)
      refine q_iload rfl ?_
      refine v_aaldn V14 (L' := 3) (by decide) (by decide) rfl f16 (by omega) (by omega) (fun j17 f18 => ?_)
      refine q_iload rfl ?_
      refine v_ald V14 (L' := 3) (by decide) f18 (by omega) (by omega) (fun v19 => ?_)
      exact q_iret (hZ _ _ (Or.inl ⟨⟨V14.1, V14.2.1⟩, ⟨_, rfl⟩⟩))
    · exact hZ _ _ (Or.inr ⟨hg11, rfl⟩)
  · skip
    refine q_iload rfl ?_
    refine q_call (Nat.le_of_ble_eq_true rfl) (Nat.le_of_ble_eq_true rfl) (by rw [V.2.2.1]; decide) (by rw [V.2.2.2]; decide) ?_
    refine xC.up (tv44 (x0 := x2) V.set  (fun o20 g21 hp => ?_)) (by omega)
    obtain ⟨rfl, ⟨v23, rfl, f24⟩⟩ := hp
    show x_seq _ _ _ _ ([.inr (.inr (7, x0)), .inl x1, .inl x2], [.inl v23], h)
    refine v_if_eq (fun d25 => ?_) (fun d25 => ?_)
    · skip
      refine xR.blk c88_18 ?_
      refine v_iconst (k := 0) rfl (fun v26 e27 => ?_)
      refine q_goto ?_
      refine xR.blk c88_19 ?_
      refine q_call (Nat.le_of_ble_eq_true rfl) (Nat.le_of_ble_eq_true rfl) (by rw [V.2.2.1]; decide) (by rw [V.2.2.2]; decide) ?_
      refine xC.up (tw45 (x0 := v26) V.set  (fun o28 g29 hp => ?_)) (by omega)
      rcases hp with ⟨rfl, rfl, f32⟩ | ⟨hg30, rfl, f9⟩
      · skip
        have V33 : VI c 1 6 (x_setc (x_setc h 0 0) (x_ce h + 1) (x_so h + 6)) := VI.after (mc := 1) (ms := 6) V ⟨V.1, V.2.1⟩
        show x_seq _ _ _ _ ([.inr (.inr (7, x0)), .inl x1, .inl x2], [], (x_setc (x_setc h 0 0) (x_ce h + 1) (x_so h + 6)))
        refine q_aload rfl (by decide) ?_
        refine v_gfrn V33 (by decide) rfl g0 (fun j34 f35 => ?_)
        refine q_iload rfl ?_
        refine v_aaldn V33 (L' := 3) (by decide) (by decide) rfl f35 (by omega) (by omega) (fun j36 f37 => ?_)
        refine q_iload rfl ?_
        refine v_ald V33 (L' := 3) (by decide) f37 (by omega) (by omega) (fun v38 => ?_)
        exact q_iret (hZ _ _ (Or.inl ⟨⟨V33.1, V33.2.1⟩, ⟨_, rfl⟩⟩))
      · exact hZ _ _ (Or.inr ⟨hg30, rfl⟩)
    · skip
      refine v_iconst (k := 1) rfl (fun v39 e40 => ?_)
      refine q_goto ?_
      refine xR.blk c88_19 ?_
      refine q_call (Nat.le_of_ble_eq_true rfl) (Nat.le_of_ble_eq_true rfl) (by rw [V.2.2.1]; decide) (by rw [V.2.2.2]; decide) ?_
      refine xC.up (tw45 (x0 := v39) V.set  (fun o41 g42 hp => ?_)) (by omega)
      rcases hp with ⟨rfl, rfl, f45⟩ | ⟨hg43, rfl, f9⟩
      · skip
        have V46 : VI c 1 6 (x_setc (x_setc h 0 0) (x_ce h + 1) (x_so h + 6)) := VI.after (mc := 1) (ms := 6) V ⟨V.1, V.2.1⟩
        show x_seq _ _ _ _ ([.inr (.inr (7, x0)), .inl x1, .inl x2], [], (x_setc (x_setc h 0 0) (x_ce h + 1) (x_so h + 6)))
        refine q_aload rfl (by decide) ?_
        refine v_gfrn V46 (by decide) rfl g0 (fun j47 f48 => ?_)
        refine q_iload rfl ?_
        refine v_aaldn V46 (L' := 3) (by decide) (by decide) rfl f48 (by omega) (by omega) (fun j49 f50 => ?_)
        refine q_iload rfl ?_
        refine v_ald V46 (L' := 3) (by decide) f50 (by omega) (by omega) (fun v51 => ?_)
        exact q_iret (hZ _ _ (Or.inl ⟨⟨V46.1, V46.2.1⟩, ⟨_, rfl⟩⟩))
      · exact hZ _ _ (Or.inr ⟨hg43, rfl⟩)
