theorem tv59 {c : xP} {h : xH} {Z : xO → xH → Prop} {x0 : Nat} {x1 : Nat} {x2 : Int32} (V : VI c 0 0 h) (g0 : L c 7 x0) (g1 : L c 1 x1) (hZ : ∀ (o : xO) (g : xH), (CI g ∧ x_pj g = c) ∧ (o = .inl none) → Z o g) : xC 1000 59 [.inr (.inr (7, x0)), .inr (.inr (1, x1)), .inl x2] h Z := by
  refine ⟨rfl, V.2.2.1, V.2.2.2, ?_⟩
  show xR _ 59 0 ([.inr (.inr (7, x0)), .inr (.inr (1, x1)), .inl x2, .inr (.inr (0, 0))], [], h) Z
  refine xR.blk c59_0 ?_
  refine v_iconst (k := 0) rfl (fun v1 e2 => ?_)
  refine q_istore (Nat.le_of_ble_eq_true rfl) ?_
  show x_seq _ _ _ _ ([.inr (.inr (7, x0)), .inr (.inr (1, x1)), .inl x2, .inl v1], [], h)
  refine q_goto ?_
  have lp4 : ∀ (m3 : Nat) (ylp4_3 : Int32) (h6 : xH), VI c 0 0 h6 → (0 ≤ ylp4_3.toInt ∧ ylp4_3.toInt ≤ 24) → (24 - ylp4_3.toInt).toNat < m3 → xR (700 + 10 * m3) 59 2 ([.inr (.inr (7, x0)), .inr (.inr (1, x1)), .inl x2, .inl ylp4_3], [], h6) Z := by
    intro m3
    induction m3 with
    | zero => intro ylp4_3 h6 V7 klp4_3 kmlp4; exact absurd kmlp4 (by omega)
    | succ m3 ih5 =>
      intro ylp4_3 h6 V7 klp4_3 kmlp4
      rw [show 700 + 10 * (m3 + 1) = 700 + 10 * m3 + 10 by omega]
      refine xR.blk c59_2 ?_
      refine q_iload rfl ?_
      refine q_aload rfl (by decide) ?_
      refine v_gfrn V7 (by decide) rfl g1 (fun j8 f9 => ?_)
      refine q_callv rfl (by decide) (V7.lv f9) (Nat.le_of_ble_eq_true rfl) (Nat.le_of_ble_eq_true rfl) (by rw [V7.2.2.1]; decide) (by rw [V7.2.2.2]; decide) ?_
      refine xC.up (tv24 (x0 := j8) V7.set f9 (fun o10 g11 hp => ?_)) (by omega)
      obtain ⟨rfl, ⟨v13, rfl, f14⟩⟩ := hp
      show x_seq _ _ _ _ ([.inr (.inr (7, x0)), .inr (.inr (1, x1)), .inl x2, .inl ylp4_3], [.inl v13, .inl ylp4_3], h6)
      refine v_icmp_ge (fun d15 => ?_) (fun d15 => ?_)
      · skip
        refine xR.blk c59_32 ?_
        refine q_aload rfl (by decide) ?_
        refine v_gfrn V7 (by decide) rfl g1 (fun j16 f17 => ?_)
        refine q_callv rfl (by decide) (V7.lv f17) (Nat.le_of_ble_eq_true rfl) (Nat.le_of_ble_eq_true rfl) (by rw [V7.2.2.1]; decide) (by rw [V7.2.2.2]; decide) ?_
        refine xC.up (tv39 (x0 := j16) V7.set f17 (fun o18 g19 hp => ?_)) (by omega)
        obtain ⟨hg20, rfl⟩ := hp
        have V23 := VI.after (mc := 0) (ms := 0) V7 hg20
        show x_seq _ _ _ _ ([.inr (.inr (7, x0)), .inr (.inr (1, x1)), .inl x2, .inl ylp4_3], [], x_setc g19 (x_ce h6 + 0) (x_so h6 + 0))
        generalize x_setc g19 (x_ce h6 + 0) (x_so h6 + 0) = h24 at V23 ⊢
        refine q_aload rfl (by decide) ?_
        refine v_gfrn V23 (by decide) rfl g0 (fun j25 f26 => ?_)
        refine q_aload rfl (by decide) ?_
        refine v_gfir V23 (lo := 0) (hi := 2) (by decide) g1 (fun v27 e28 => ?_)
        refine v_aaldn V23 (L' := 3) (by decide) (by decide) rfl f26 (by omega) (by omega) (fun j29 f30 => ?_)
        refine v_gfrn V23 (by decide) rfl f30 (fun j31 f32 => ?_)
        refine q_aload rfl (by decide) ?_
        refine v_gfrn V23 (by decide) rfl g1 (fun j33 f34 => ?_)
        refine q_callv rfl (by decide) (V23.lv f34) (Nat.le_of_ble_eq_true rfl) (Nat.le_of_ble_eq_true rfl) (by rw [V23.2.2.1]; decide) (by rw [V23.2.2.2]; decide) ?_
        refine xC.up (tv9 (x0 := j33) V23.set f34 (fun o35 g36 hp => ?_)) (by omega)
        obtain ⟨rfl, ⟨v38, rfl, f39⟩⟩ := hp
        show x_seq _ _ _ _ ([.inr (.inr (7, x0)), .inr (.inr (1, x1)), .inl x2, .inl ylp4_3], [.inl v38, .inr (.inr (5, j31))], h24)
        refine q_callv rfl (by decide) (V23.lv f32) (Nat.le_of_ble_eq_true rfl) (Nat.le_of_ble_eq_true rfl) (by rw [V23.2.2.1]; decide) (by rw [V23.2.2.2]; decide) ?_
        refine xC.up (tv38 (x0 := j31) (x1 := v38) V23.set f32 (fun o40 g41 hp => ?_)) (by omega)
        obtain ⟨hg42, rfl⟩ := hp
        have V45 := VI.after (mc := 0) (ms := 0) V23 hg42
        show x_seq _ _ _ _ ([.inr (.inr (7, x0)), .inr (.inr (1, x1)), .inl x2, .inl ylp4_3], [], x_setc g41 (x_ce h24 + 0) (x_so h24 + 0))
        generalize x_setc g41 (x_ce h24 + 0) (x_so h24 + 0) = h46 at V45 ⊢
        refine q_aload rfl (by decide) ?_
        refine v_gfrn V45 (by decide) rfl g1 (fun j47 f48 => ?_)
        refine q_iload rfl ?_
        refine q_callv rfl (by decide) (V45.lv f48) (Nat.le_of_ble_eq_true rfl) (Nat.le_of_ble_eq_true rfl) (by rw [V45.2.2.1]; decide) (by rw [V45.2.2.2]; decide) ?_
        refine xC.up (tv12 (x0 := j47) (x1 := x2) V45.set f48 (fun o49 g50 hp => ?_)) (by omega)
        obtain ⟨hg51, rfl⟩ := hp
        have V54 := VI.after (mc := 0) (ms := 0) V45 hg51
        show x_seq _ _ _ _ ([.inr (.inr (7, x0)), .inr (.inr (1, x1)), .inl x2, .inl ylp4_3], [], x_setc g50 (x_ce h46 + 0) (x_so h46 + 0))
        generalize x_setc g50 (x_ce h46 + 0) (x_so h46 + 0) = h55 at V54 ⊢
        refine q_aload rfl (by decide) ?_
        refine q_gfr (V54.lv g1) ?_
        refine q_ifnull (fun d56 => ?_) (fun d56 => ?_)
        · skip
          refine xR.blk c59_84 ?_
          refine q_aload rfl (by decide) ?_
          refine q_null ?_
          refine v_pfr V54 (by decide) rfl g1 (Nat.zero_le _) rfl (fun h57 V58 => ?_)
          refine q_aload rfl (by decide) ?_
          refine v_iconst (k := 0) rfl (fun v59 e60 => ?_)
          refine v_pfz V58 rfl (i32_01 (by omega)) (fun lo hi hm => by simp only [x_rgl, List.mem_cons, Prod.mk.injEq, List.not_mem_nil, or_false] at hm; omega) rfl g1 (fun h61 V62 => ?_)
          refine q_aload rfl (by decide) ?_
          refine q_stage ?_
          refine v_pfr V62 (by decide) rfl g1 (by rw [V62.cnt (n := 6) (by decide)]; decide) rfl (fun h63 V64 => ?_)
          exact q_ret (hZ _ _ ⟨⟨V64.1, V64.2.1⟩, rfl⟩)
        · skip
          have f65 : L c 2 (x_vr h55 1 3 x1) := ⟨Nat.one_le_iff_ne_zero.mpr d56, (V54.nu (K := 1) (k := 3) (by decide) g1)⟩
          refine q_aload rfl (by decide) ?_
          refine q_gfr (V54.lv g1) ?_
          refine v_iconst (k := 3) rfl (fun v66 e67 => ?_)
          refine q_callv rfl (by decide) (V54.lv f65) (Nat.le_of_ble_eq_true rfl) (Nat.le_of_ble_eq_true rfl) (by rw [V54.2.2.1]; decide) (by rw [V54.2.2.2]; decide) ?_
          refine xC.up (tv12 (x0 := (x_vr h55 1 3 x1)) (x1 := v66) V54.set f65 (fun o68 g69 hp => ?_)) (by omega)
          obtain ⟨hg70, rfl⟩ := hp
          have V73 := VI.after (mc := 0) (ms := 0) V54 hg70
          show x_seq _ _ _ _ ([.inr (.inr (7, x0)), .inr (.inr (1, x1)), .inl x2, .inl ylp4_3], [], x_setc g69 (x_ce h55 + 0) (x_so h55 + 0))
          generalize x_setc g69 (x_ce h55 + 0) (x_so h55 + 0) = h74 at V73 ⊢
          refine q_goto ?_
          refine xR.blk c59_84 ?_
          refine q_aload rfl (by decide) ?_
          refine q_null ?_
          refine v_pfr V73 (by decide) rfl g1 (Nat.zero_le _) rfl (fun h75 V76 => ?_)
          refine q_aload rfl (by decide) ?_
          refine v_iconst (k := 0) rfl (fun v77 e78 => ?_)
          refine v_pfz V76 rfl (i32_01 (by omega)) (fun lo hi hm => by simp only [x_rgl, List.mem_cons, Prod.mk.injEq, List.not_mem_nil, or_false] at hm; omega) rfl g1 (fun h79 V80 => ?_)
          refine q_aload rfl (by decide) ?_
          refine q_stage ?_
          refine v_pfr V80 (by decide) rfl g1 (by rw [V80.cnt (n := 6) (by decide)]; decide) rfl (fun h81 V82 => ?_)
          exact q_ret (hZ _ _ ⟨⟨V82.1, V82.2.1⟩, rfl⟩)
      · skip
        refine q_aload rfl (by decide) ?_
        refine q_aload rfl (by decide) ?_
        refine v_gfrn V7 (by decide) rfl g1 (fun j83 f84 => ?_)
        refine q_iload rfl ?_
        refine q_callv rfl (by decide) (V7.lv f84) (Nat.le_of_ble_eq_true rfl) (Nat.le_of_ble_eq_true rfl) (by rw [V7.2.2.1]; decide) (by rw [V7.2.2.2]; decide) ?_
        refine xC.up (tv23 (x0 := j83) (x1 := ylp4_3) V7.set f84 (fun o85 g86 hp => ?_)) (by omega)
        obtain ⟨rfl, ⟨v88, rfl⟩⟩ := hp
        show x_seq _ _ _ _ ([.inr (.inr (7, x0)), .inr (.inr (1, x1)), .inl x2, .inl ylp4_3], [.inl v88, .inr (.inr (7, x0))], h6)
        refine q_null ?_
        refine q_callv rfl (by decide) (V7.lv g0) (Nat.le_of_ble_eq_true rfl) (Nat.le_of_ble_eq_true rfl) (by rw [V7.2.2.1]; decide) (by rw [V7.2.2.2]; decide) ?_
        refine xC.up (tv52 (x0 := x0) (x1 := v88) (x2 := 0) V7.set g0 (Nat.zero_le _) (fun o90 g91 hp => ?_)) (by omega)
        obtain ⟨hg92, rfl⟩ := hp
        have V95 := VI.after (mc := 0) (ms := 0) V7 hg92
        show x_seq _ _ _ _ ([.inr (.inr (7, x0)), .inr (.inr (1, x1)), .inl x2, .inl ylp4_3], [], x_setc g91 (x_ce h6 + 0) (x_so h6 + 0))
        generalize x_setc g91 (x_ce h6 + 0) (x_so h6 + 0) = h96 at V95 ⊢
        refine v_iinc (k := 1) rfl rfl (by omega) (by have b9 := Int32.toInt_lt ylp4_3; omega) (fun v97 e98 => ?_)
        show x_seq _ _ _ _ ([.inr (.inr (7, x0)), .inr (.inr (1, x1)), .inl x2, .inl v97], [], h96)
        refine q_goto ?_
        exact (ih5 v97 _ V95 (by omega) (by omega)).up (by omega)
  exact (lp4 25 v1 _ V (by omega) (by omega)).up (by omega)
theorem tv60 {c : xP} {h : xH} {Z : xO → xH → Prop} {x0 : Nat} {x1 : Int32} {x2 : Int32} (V : VI c 0 0 h) (g0 : L c 7 x0) (hZ : ∀ (o : xO) (g : xH), ((CI g ∧ x_pj g = c) ∧ (o = .inl none)) ∨ ((CI g ∧ x_pj g = c) ∧ ∃ k, o = .inr k) → Z o g) : xC 1200 60 [.inr (.inr (7, x0)), .inl x1, .inl x2] h Z := by
  refine ⟨rfl, V.2.2.1, V.2.2.2, ?_⟩
  show xR _ 60 0 ([.inr (.inr (7, x0)), .inl x1, .inl x2, .inr (.inr (0, 0)), .inr (.inr (0, 0))], [], h) Z
  refine xR.blk c60_0 ?_
  refine q_aload rfl (by decide) ?_
  refine q_iload rfl ?_
  refine q_iload rfl ?_
  refine q_callv rfl (by decide) (V.lv g0) (Nat.le_of_ble_eq_true rfl) (Nat.le_of_ble_eq_true rfl) (by rw [V.2.2.1]; decide) (by rw [V.2.2.2]; decide) ?_
  refine xC.up (tv51 (x0 := x0) (x1 := x1) (x2 := x2) V.set g0 (fun o1 g2 hp => ?_)) (by omega)
  rcases hp with ⟨hg3, ⟨j4, rfl, f5, e6⟩⟩ | ⟨hg3, k9, rfl⟩
  · skip
    have V7 := VI.after (mc := 1) (ms := 6) V hg3
    show x_seq _ _ _ _ ([.inr (.inr (7, x0)), .inl x1, .inl x2, .inr (.inr (0, 0)), .inr (.inr (0, 0))], [.inr (.inr (2, j4))], x_setc g2 (x_ce h + 1) (x_so h + 6))
    generalize x_setc g2 (x_ce h + 1) (x_so h + 6) = h8 at V7 ⊢
    refine q_astore (Nat.le_of_ble_eq_true rfl) ?_
    show x_seq _ _ _ _ ([.inr (.inr (7, x0)), .inl x1, .inl x2, .inr (.inr (2, j4)), .inr (.inr (0, 0))], [], h8)
    refine q_aload rfl (by decide) ?_
    refine v_gfi V7 f5 (fun v9 => ?_)
    refine q_call (Nat.le_of_ble_eq_true rfl) (Nat.le_of_ble_eq_true rfl) (by rw [V7.2.2.1]; decide) (by rw [V7.2.2.2]; decide) ?_
    refine xC.up (tv46 (x0 := v9) V7.set  (fun o11 g12 hp => ?_)) (by omega)
    rcases hp with ⟨rfl, rfl, f15⟩ | ⟨hg13, k9, rfl⟩
    · skip
      have V16 : VI c 2 12 (x_setc (x_setc h8 0 0) (x_ce h8 + 1) (x_so h8 + 6)) := VI.after (mc := 1) (ms := 6) V7 ⟨V7.1, V7.2.1⟩
      show x_seq _ _ _ _ ([.inr (.inr (7, x0)), .inl x1, .inl x2, .inr (.inr (2, j4)), .inr (.inr (0, 0))], [], (x_setc (x_setc h8 0 0) (x_ce h8 + 1) (x_so h8 + 6)))
      refine q_aload rfl (by decide) ?_
      refine v_iconst (k := 0) rfl (fun v17 e18 => ?_)
      refine v_pfz V16 rfl (i32_01 (by omega)) (fun lo hi hm => by simp only [x_rgl, List.mem_cons, Prod.mk.injEq, List.not_mem_nil, or_false] at hm; omega) rfl f5 (fun h19 V20 => ?_)
      refine q_aload rfl (by decide) ?_
      refine v_iconst (k := 0) rfl (fun v21 e22 => ?_)
      refine v_pfi V20 rfl (fun lo hi hm => by simp only [x_rgl, List.mem_cons, Prod.mk.injEq, List.not_mem_nil, or_false] at hm; omega) rfl f5 (fun h23 V24 => ?_)
      refine q_aload rfl (by decide) ?_
      refine q_gfr (V24.lv f5) ?_
      refine q_astore (Nat.le_of_ble_eq_true rfl) ?_
      show x_seq _ _ _ _ ([.inr (.inr (7, x0)), .inl x1, .inl x2, .inr (.inr (2, j4)), .inr (.inr (1, (x_vr h23 2 5 j4)))], [], h23)
      refine q_aload rfl (by decide) ?_
      refine q_ifnonnull (fun d25 => ?_) (fun d25 => ?_)
      · skip
        have f26 : L c 1 (x_vr h23 2 5 j4) := ⟨Nat.one_le_iff_ne_zero.mpr d25, (V24.nu (K := 2) (k := 5) (by decide) f5)⟩
        refine xR.blk c60_51 ?_
        refine q_aload rfl (by decide) ?_
        refine q_gfr (V24.lv f26) ?_
        refine q_aload rfl (by decide) ?_
        refine q_ane (fun d27 => ?_) (fun d27 => ?_)
        · skip
          refine xR.blk c60_69 ?_
          refine q_aload rfl (by decide) ?_
          refine v_gfi V24 f26 (fun v28 => ?_)
          refine v_if_ne (fun d30 => ?_) (fun d30 => ?_)
          · skip
            refine xR.blk c60_84 ?_
            exact q_ret (hZ _ _ (Or.inl ⟨⟨V24.1, V24.2.1⟩, rfl⟩))
          · skip
            refine q_aload rfl (by decide) ?_
            refine q_aload rfl (by decide) ?_
            refine v_iconst (k := 3) rfl (fun v31 e32 => ?_)
            refine q_callv rfl (by decide) (V24.lv g0) (Nat.le_of_ble_eq_true rfl) (Nat.le_of_ble_eq_true rfl) (by rw [V24.2.2.1]; decide) (by rw [V24.2.2.2]; decide) ?_
            refine xC.up (tv59 (x0 := x0) (x1 := (x_vr h23 2 5 j4)) (x2 := v31) V24.set g0 f26 (fun o33 g34 hp => ?_)) (by omega)
            obtain ⟨hg35, rfl⟩ := hp
            have V38 := VI.after (mc := 0) (ms := 0) V24 hg35
            show x_seq _ _ _ _ ([.inr (.inr (7, x0)), .inl x1, .inl x2, .inr (.inr (2, j4)), .inr (.inr (1, (x_vr h23 2 5 j4)))], [], x_setc g34 (x_ce h23 + 0) (x_so h23 + 0))
            generalize x_setc g34 (x_ce h23 + 0) (x_so h23 + 0) = h39 at V38 ⊢
            refine q_goto ?_
            refine xR.blk c60_84 ?_
            exact q_ret (hZ _ _ (Or.inl ⟨⟨V38.1, V38.2.1⟩, rfl⟩))
        · skip
          refine q_aload rfl (by decide) ?_
          refine v_iconst (k := 0) rfl (fun v40 e41 => ?_)
          refine v_pfi V24 rfl (fun lo hi hm => by simp only [x_rgl, List.mem_cons, Prod.mk.injEq, List.not_mem_nil, or_false] at hm; omega) rfl f26 (fun h42 V43 => ?_)
          refine q_goto ?_
          refine xR.blk c60_84 ?_
          exact q_ret (hZ _ _ (Or.inl ⟨⟨V43.1, V43.2.1⟩, rfl⟩))
      · skip
        refine q_aload rfl (by decide) ?_
        refine v_gfrn V24 (by decide) rfl g0 (fun j44 f45 => ?_)
        refine q_iload rfl ?_
        refine v_aaldn V24 (L' := 3) (by decide) (by decide) rfl f45 (by omega) (by omega) (fun j46 f47 => ?_)
        refine v_gfrn V24 (by decide) rfl f47 (fun j48 f49 => ?_)
        refine q_iload rfl ?_
        refine q_callv rfl (by decide) (V24.lv f49) (Nat.le_of_ble_eq_true rfl) (Nat.le_of_ble_eq_true rfl) (by rw [V24.2.2.1]; decide) (by rw [V24.2.2.2]; decide) ?_
        refine xC.up (tv38 (x0 := j48) (x1 := x2) V24.set f49 (fun o50 g51 hp => ?_)) (by omega)
        obtain ⟨hg52, rfl⟩ := hp
        have V55 := VI.after (mc := 0) (ms := 0) V24 hg52
        show x_seq _ _ _ _ ([.inr (.inr (7, x0)), .inl x1, .inl x2, .inr (.inr (2, j4)), .inr (.inr (1, (x_vr h23 2 5 j4)))], [], x_setc g51 (x_ce h23 + 0) (x_so h23 + 0))
        generalize x_setc g51 (x_ce h23 + 0) (x_so h23 + 0) = h56 at V55 ⊢
        refine q_goto ?_
        refine xR.blk c60_84 ?_
        exact q_ret (hZ _ _ (Or.inl ⟨⟨V55.1, V55.2.1⟩, rfl⟩))
    · exact hZ _ _ (Or.inr ⟨hg13, k9, rfl⟩)
  · exact hZ _ _ (Or.inr ⟨hg3, k9, rfl⟩)
theorem tv61 {c : xP} {h : xH} {Z : xO → xH → Prop} {x0 : Nat} {x1 : Nat} {x2 : Nat} (V : VI c 0 0 h) (g0 : L c 7 x0) (g1 : L c 3 x1) (g2 : L c 1 x2) (hZ : ∀ (o : xO) (g : xH), (CI g ∧ x_pj g = c) ∧ (o = .inl none) → Z o g) : xC 40 61 [.inr (.inr (7, x0)), .inr (.inr (3, x1)), .inr (.inr (1, x2))] h Z := by
  refine ⟨rfl, V.2.2.1, V.2.2.2, ?_⟩
  show xR _ 61 0 ([.inr (.inr (7, x0)), .inr (.inr (3, x1)), .inr (.inr (1, x2))], [], h) Z
  refine xR.blk c61_0 ?_
  refine q_aload rfl (by decide) ?_
  refine q_stage ?_
  refine v_pfr V (by decide) rfl g2 (by rw [V.cnt (n := 6) (by decide)]; decide) rfl (fun h1 V2 => ?_)
  refine q_aload rfl (by decide) ?_
  refine v_gfrn V2 (by decide) rfl g1 (fun j3 f4 => ?_)
  refine q_aload rfl (by decide) ?_
  refine v_gfrn V2 (by decide) rfl g2 (fun j5 f6 => ?_)
  refine q_callv rfl (by decide) (V2.lv f6) (Nat.le_of_ble_eq_true rfl) (Nat.le_of_ble_eq_true rfl) (by rw [V2.2.2.1]; decide) (by rw [V2.2.2.2]; decide) ?_
  refine xC.up (tv9 (x0 := j5) V2.set f6 (fun o7 g8 hp => ?_)) (by omega)
  obtain ⟨rfl, ⟨v10, rfl, f11⟩⟩ := hp
  show x_seq _ _ _ _ ([.inr (.inr (7, x0)), .inr (.inr (3, x1)), .inr (.inr (1, x2))], [.inl v10, .inr (.inr (5, j3))], h1)
  refine q_callv rfl (by decide) (V2.lv f4) (Nat.le_of_ble_eq_true rfl) (Nat.le_of_ble_eq_true rfl) (by rw [V2.2.2.1]; decide) (by rw [V2.2.2.2]; decide) ?_
  refine xC.up (tv37 (x0 := j3) (x1 := v10) V2.set f4 (fun o12 g13 hp => ?_)) (by omega)
  obtain ⟨hg14, rfl⟩ := hp
  have V17 := VI.after (mc := 0) (ms := 0) V2 hg14
  show x_seq _ _ _ _ ([.inr (.inr (7, x0)), .inr (.inr (3, x1)), .inr (.inr (1, x2))], [], x_setc g13 (x_ce h1 + 0) (x_so h1 + 0))
  generalize x_setc g13 (x_ce h1 + 0) (x_so h1 + 0) = h18 at V17 ⊢
  exact q_ret (hZ _ _ ⟨⟨V17.1, V17.2.1⟩, rfl⟩)
theorem tv62 {c : xP} {h : xH} {Z : xO → xH → Prop} {x0 : Nat} {x1 : Nat} {x2 : Nat} {x3 : Int32} (V : VI c 0 0 h) (g0 : L c 7 x0) (g1 : L c 3 x1) (g2 : L c 1 x2) (hZ : ∀ (o : xO) (g : xH), (CI g ∧ x_pj g = c) ∧ (o = .inl none) → Z o g) : xC 20000005000 62 [.inr (.inr (7, x0)), .inr (.inr (3, x1)), .inr (.inr (1, x2)), .inl x3] h Z := by
  refine ⟨rfl, V.2.2.1, V.2.2.2, ?_⟩
  show xR _ 62 0 ([.inr (.inr (7, x0)), .inr (.inr (3, x1)), .inr (.inr (1, x2)), .inl x3, .inr (.inr (0, 0))], [], h) Z
  refine xR.blk c62_0 ?_
  refine q_aload rfl (by decide) ?_
  refine q_aload rfl (by decide) ?_
  refine v_gfi V g2 (fun v1 => ?_)
  refine v_iconst (k := 10) rfl (fun v3 e4 => ?_)
  refine v_bin (fun v5 => ?_)
  refine q_iload rfl ?_
  refine v_bin (fun v7 => ?_)
  refine v_pfi V rfl (fun lo hi hm => by simp only [x_rgl, List.mem_cons, Prod.mk.injEq, List.not_mem_nil, or_false] at hm; omega) rfl g2 (fun h9 V10 => ?_)
  refine q_aload rfl (by decide) ?_
  refine v_iconst (k := 0) rfl (fun v11 e12 => ?_)
  refine v_pfi V10 rfl (fun lo hi hm => by simp only [x_rgl, List.mem_cons, Prod.mk.injEq, List.not_mem_nil, or_false] at hm; omega) rfl g2 (fun h13 V14 => ?_)
  refine q_aload rfl (by decide) ?_
  refine v_gfrn V14 (by decide) rfl g2 (fun j15 f16 => ?_)
  refine v_iconst (k := 0) rfl (fun v17 e18 => ?_)
  refine v_pfi V14 rfl (fun lo hi hm => by simp only [x_rgl, List.mem_cons, Prod.mk.injEq, List.not_mem_nil, or_false] at hm; omega) rfl f16 (fun h19 V20 => ?_)
  refine q_aload rfl (by decide) ?_
  refine q_aload rfl (by decide) ?_
  refine v_gfi V20 g2 (fun v21 => ?_)
  refine q_callv rfl (by decide) (V20.lv g1) (Nat.le_of_ble_eq_true rfl) (Nat.le_of_ble_eq_true rfl) (by rw [V20.2.2.1]; decide) (by rw [V20.2.2.2]; decide) ?_
  refine xC.up (tv17 (x0 := x1) (x1 := v21) V20.set g1 (fun o23 g24 hp => ?_)) (by omega)
  obtain ⟨rfl, ⟨j26, rfl, f27⟩⟩ := hp
  show x_seq _ _ _ _ ([.inr (.inr (7, x0)), .inr (.inr (3, x1)), .inr (.inr (1, x2)), .inl x3, .inr (.inr (0, 0))], [.inr (.inr (4, j26))], h19)
  refine q_astore (Nat.le_of_ble_eq_true rfl) ?_
  show x_seq _ _ _ _ ([.inr (.inr (7, x0)), .inr (.inr (3, x1)), .inr (.inr (1, x2)), .inl x3, .inr (.inr (4, j26))], [], h19)
  refine q_aload rfl (by decide) ?_
  refine q_ifnonnull (fun d28 => ?_) (fun d28 => ?_)
  · skip
    have f29 : L c 4 j26 := ⟨Nat.one_le_iff_ne_zero.mpr d28, f27⟩
    refine xR.blk c62_61 ?_
    refine q_aload rfl (by decide) ?_
    refine q_aload rfl (by decide) ?_
    refine v_gfi V20 g2 (fun v30 => ?_)
    refine q_callv rfl (by decide) (V20.lv f29) (Nat.le_of_ble_eq_true rfl) (Nat.le_of_ble_eq_true rfl) (by rw [V20.2.2.1]; decide) (by rw [V20.2.2.2]; decide) ?_
    refine xC.up (tv35 (x0 := j26) (x1 := v30) V20.set f29 (fun o32 g33 hp => ?_)) (by omega)
    obtain ⟨rfl, ⟨v35, rfl⟩⟩ := hp
    show x_seq _ _ _ _ ([.inr (.inr (7, x0)), .inr (.inr (3, x1)), .inr (.inr (1, x2)), .inl x3, .inr (.inr (4, j26))], [.inl v35], h19)
    refine v_iconst (k := 2) rfl (fun v37 e38 => ?_)
    refine v_icmp_lt (fun d39 => ?_) (fun d39 => ?_)
    · skip
      refine xR.blk c62_86 ?_
      exact q_ret (hZ _ _ ⟨⟨V20.1, V20.2.1⟩, rfl⟩)
    · skip
      refine q_aload rfl (by decide) ?_
      refine q_aload rfl (by decide) ?_
      refine v_pfr V20 (by decide) rfl g2 f29.2 rfl (fun h40 V41 => ?_)
      refine q_aload rfl (by decide) ?_
      refine q_aload rfl (by decide) ?_
      refine q_aload rfl (by decide) ?_
      refine q_callv rfl (by decide) (V41.lv g0) (Nat.le_of_ble_eq_true rfl) (Nat.le_of_ble_eq_true rfl) (by rw [V41.2.2.1]; decide) (by rw [V41.2.2.2]; decide) ?_
      refine xC.up (tv61 (x0 := x0) (x1 := x1) (x2 := x2) V41.set g0 g1 g2 (fun o42 g43 hp => ?_)) (by omega)
      obtain ⟨hg44, rfl⟩ := hp
      have V47 := VI.after (mc := 0) (ms := 0) V41 hg44
      show x_seq _ _ _ _ ([.inr (.inr (7, x0)), .inr (.inr (3, x1)), .inr (.inr (1, x2)), .inl x3, .inr (.inr (4, j26))], [], x_setc g43 (x_ce h40 + 0) (x_so h40 + 0))
      generalize x_setc g43 (x_ce h40 + 0) (x_so h40 + 0) = h48 at V47 ⊢
      refine q_goto ?_
      refine xR.blk c62_86 ?_
      exact q_ret (hZ _ _ ⟨⟨V47.1, V47.2.1⟩, rfl⟩)
  · skip
    refine q_aload rfl (by decide) ?_
    refine q_aload rfl (by decide) ?_
    refine v_gfi V20 g2 (fun v49 => ?_)
    refine q_callv rfl (by decide) (V20.lv g1) (Nat.le_of_ble_eq_true rfl) (Nat.le_of_ble_eq_true rfl) (by rw [V20.2.2.1]; decide) (by rw [V20.2.2.2]; decide) ?_
    refine xC.up (tv18 (x0 := x1) (x1 := v49) V20.set g1 (fun o51 g52 hp => ?_)) (by omega)
    obtain ⟨rfl, ⟨v54, rfl, f55⟩⟩ := hp
    show x_seq _ _ _ _ ([.inr (.inr (7, x0)), .inr (.inr (3, x1)), .inr (.inr (1, x2)), .inl x3, .inr (.inr (4, j26))], [.inl v54], h19)
    refine v_if_ne (fun d56 => ?_) (fun d56 => ?_)
    · skip
      refine xR.blk c62_86 ?_
      exact q_ret (hZ _ _ ⟨⟨V20.1, V20.2.1⟩, rfl⟩)
    · skip
      refine q_aload rfl (by decide) ?_
      refine q_aload rfl (by decide) ?_
      refine v_iconst (k := 5) rfl (fun v57 e58 => ?_)
      refine q_callv rfl (by decide) (V20.lv g0) (Nat.le_of_ble_eq_true rfl) (Nat.le_of_ble_eq_true rfl) (by rw [V20.2.2.1]; decide) (by rw [V20.2.2.2]; decide) ?_
      refine xC.up (tv59 (x0 := x0) (x1 := x2) (x2 := v57) V20.set g0 g2 (fun o59 g60 hp => ?_)) (by omega)
      obtain ⟨hg61, rfl⟩ := hp
      have V64 := VI.after (mc := 0) (ms := 0) V20 hg61
      show x_seq _ _ _ _ ([.inr (.inr (7, x0)), .inr (.inr (3, x1)), .inr (.inr (1, x2)), .inl x3, .inr (.inr (4, j26))], [], x_setc g60 (x_ce h19 + 0) (x_so h19 + 0))
      generalize x_setc g60 (x_ce h19 + 0) (x_so h19 + 0) = h65 at V64 ⊢
      refine q_goto ?_
      refine xR.blk c62_86 ?_
      exact q_ret (hZ _ _ ⟨⟨V64.1, V64.2.1⟩, rfl⟩)
theorem tv63 {c : xP} {h : xH} {Z : xO → xH → Prop} {x0 : Nat} {x1 : Int32} {x2 : Int32} {x3 : Int32} (V : VI c 0 0 h) (g0 : L c 7 x0) (hZ : ∀ (o : xO) (g : xH), ((CI g ∧ x_pj g = c) ∧ (∃ v : Int32, o = .inl (some (.inl v)) ∧ 0 ≤ v.toInt ∧ v.toInt ≤ 1)) ∨ ((CI g ∧ x_pj g = c) ∧ ∃ k, o = .inr k) → Z o g) : xC 20000006000 63 [.inr (.inr (7, x0)), .inl x1, .inl x2, .inl x3] h Z := by
  refine ⟨rfl, V.2.2.1, V.2.2.2, ?_⟩
  show xR _ 63 0 ([.inr (.inr (7, x0)), .inl x1, .inl x2, .inl x3, .inr (.inr (0, 0)), .inr (.inr (0, 0))], [], h) Z
  refine xR.blk c63_0 ?_
  refine q_aload rfl (by decide) ?_
  refine q_iload rfl ?_
  refine q_iload rfl ?_
  refine q_callv rfl (by decide) (V.lv g0) (Nat.le_of_ble_eq_true rfl) (Nat.le_of_ble_eq_true rfl) (by rw [V.2.2.1]; decide) (by rw [V.2.2.2]; decide) ?_
  refine xC.up (tv51 (x0 := x0) (x1 := x1) (x2 := x2) V.set g0 (fun o1 g2 hp => ?_)) (by omega)
  rcases hp with ⟨hg3, ⟨j4, rfl, f5, e6⟩⟩ | ⟨hg3, k9, rfl⟩
  · skip
    have V7 := VI.after (mc := 1) (ms := 6) V hg3
    show x_seq _ _ _ _ ([.inr (.inr (7, x0)), .inl x1, .inl x2, .inl x3, .inr (.inr (0, 0)), .inr (.inr (0, 0))], [.inr (.inr (2, j4))], x_setc g2 (x_ce h + 1) (x_so h + 6))
    generalize x_setc g2 (x_ce h + 1) (x_so h + 6) = h8 at V7 ⊢
    refine q_astore (Nat.le_of_ble_eq_true rfl) ?_
    show x_seq _ _ _ _ ([.inr (.inr (7, x0)), .inl x1, .inl x2, .inl x3, .inr (.inr (2, j4)), .inr (.inr (0, 0))], [], h8)
    refine q_iload rfl ?_
    refine v_iconst (k := 0) rfl (fun v9 e10 => ?_)
    refine v_iconst (k := 9) rfl (fun v11 e12 => ?_)
    refine q_call (Nat.le_of_ble_eq_true rfl) (Nat.le_of_ble_eq_true rfl) (by rw [V7.2.2.1]; decide) (by rw [V7.2.2.2]; decide) ?_
    refine xC.up (tv25 (x0 := x3) (x1 := v9) (x2 := v11) V7.set  (fun o13 g14 hp => ?_)) (by omega)
    obtain ⟨rfl, ⟨v16, rfl, f17⟩⟩ := hp
    show x_seq _ _ _ _ ([.inr (.inr (7, x0)), .inl x1, .inl x2, .inl x3, .inr (.inr (2, j4)), .inr (.inr (0, 0))], [.inl v16], h8)
    refine q_call (Nat.le_of_ble_eq_true rfl) (Nat.le_of_ble_eq_true rfl) (by rw [V7.2.2.1]; decide) (by rw [V7.2.2.2]; decide) ?_
    refine xC.up (tv45 (x0 := v16) V7.set  (fun o18 g19 hp => ?_)) (by omega)
    rcases hp with ⟨rfl, rfl, f22⟩ | ⟨hg20, k9, rfl⟩
    · skip
      have V23 : VI c 2 12 (x_setc (x_setc h8 0 0) (x_ce h8 + 1) (x_so h8 + 6)) := VI.after (mc := 1) (ms := 6) V7 ⟨V7.1, V7.2.1⟩
      show x_seq _ _ _ _ ([.inr (.inr (7, x0)), .inl x1, .inl x2, .inl x3, .inr (.inr (2, j4)), .inr (.inr (0, 0))], [], (x_setc (x_setc h8 0 0) (x_ce h8 + 1) (x_so h8 + 6)))
      refine q_aload rfl (by decide) ?_
      refine v_gfi V23 f5 (fun v24 => ?_)
      refine q_call (Nat.le_of_ble_eq_true rfl) (Nat.le_of_ble_eq_true rfl) (by rw [V23.2.2.1]; decide) (by rw [V23.2.2.2]; decide) ?_
      refine xC.up (tv46 (x0 := v24) V23.set  (fun o26 g27 hp => ?_)) (by omega)
      rcases hp with ⟨rfl, rfl, f30⟩ | ⟨hg28, k9, rfl⟩
      · skip
        have V31 : VI c 3 18 (x_setc (x_setc (x_setc (x_setc h8 0 0) (x_ce h8 + 1) (x_so h8 + 6)) 0 0) (x_ce (x_setc (x_setc h8 0 0) (x_ce h8 + 1) (x_so h8 + 6)) + 1) (x_so (x_setc (x_setc h8 0 0) (x_ce h8 + 1) (x_so h8 + 6)) + 6)) := VI.after (mc := 1) (ms := 6) V23 ⟨V23.1, V23.2.1⟩
        show x_seq _ _ _ _ ([.inr (.inr (7, x0)), .inl x1, .inl x2, .inl x3, .inr (.inr (2, j4)), .inr (.inr (0, 0))], [], (x_setc (x_setc (x_setc (x_setc h8 0 0) (x_ce h8 + 1) (x_so h8 + 6)) 0 0) (x_ce (x_setc (x_setc h8 0 0) (x_ce h8 + 1) (x_so h8 + 6)) + 1) (x_so (x_setc (x_setc h8 0 0) (x_ce h8 + 1) (x_so h8 + 6)) + 6)))
        refine q_aload rfl (by decide) ?_
        refine q_gfr (V31.lv f5) ?_
        show x_seq _ _ _ _ ([.inr (.inr (7, x0)), .inl x1, .inl x2, .inl x3, .inr (.inr (2, j4)), .inr (.inr (0, 0))], [.inr (.inr (1, (x_vr h8 2 5 j4)))], (x_setc (x_setc (x_setc (x_setc h8 0 0) (x_ce h8 + 1) (x_so h8 + 6)) 0 0) (x_ce (x_setc (x_setc h8 0 0) (x_ce h8 + 1) (x_so h8 + 6)) + 1) (x_so (x_setc (x_setc h8 0 0) (x_ce h8 + 1) (x_so h8 + 6)) + 6)))
        refine q_astore (Nat.le_of_ble_eq_true rfl) ?_
        show x_seq _ _ _ _ ([.inr (.inr (7, x0)), .inl x1, .inl x2, .inl x3, .inr (.inr (2, j4)), .inr (.inr (1, (x_vr h8 2 5 j4)))], [], (x_setc (x_setc (x_setc (x_setc h8 0 0) (x_ce h8 + 1) (x_so h8 + 6)) 0 0) (x_ce (x_setc (x_setc h8 0 0) (x_ce h8 + 1) (x_so h8 + 6)) + 1) (x_so (x_setc (x_setc h8 0 0) (x_ce h8 + 1) (x_so h8 + 6)) + 6)))
        refine q_aload rfl (by decide) ?_
        refine q_ifnull (fun d32 => ?_) (fun d32 => ?_)
        · skip
          refine xR.blk c63_49 ?_
          refine v_iconst (k := 0) rfl (fun v33 e34 => ?_)
          exact q_zret (i32_01 (by omega)) (hZ _ _ (Or.inl ⟨⟨V31.1, V31.2.1⟩, ⟨_, rfl, by omega⟩⟩))
        · skip
          have f35 : L c 1 (x_vr h8 2 5 j4) := ⟨Nat.one_le_iff_ne_zero.mpr d32, (V31.nu (K := 2) (k := 5) (by decide) f5)⟩
          refine q_aload rfl (by decide) ?_
          refine q_gfr (V31.lv f35) ?_
          show x_seq _ _ _ _ ([.inr (.inr (7, x0)), .inl x1, .inl x2, .inl x3, .inr (.inr (2, j4)), .inr (.inr (1, (x_vr h8 2 5 j4)))], [.inr (.inr (9, (x_vr h8 1 2 (x_vr h8 2 5 j4))))], (x_setc (x_setc (x_setc (x_setc h8 0 0) (x_ce h8 + 1) (x_so h8 + 6)) 0 0) (x_ce (x_setc (x_setc h8 0 0) (x_ce h8 + 1) (x_so h8 + 6)) + 1) (x_so (x_setc (x_setc h8 0 0) (x_ce h8 + 1) (x_so h8 + 6)) + 6)))
          refine q_stage ?_
          refine q_aeq (fun d36 => ?_) (fun d36 => ?_)
          · skip
            refine xR.blk c63_51 ?_
            refine q_aload rfl (by decide) ?_
            refine q_aload rfl (by decide) ?_
            refine v_gfrn V31 (by decide) rfl g0 (fun j37 f38 => ?_)
            refine q_iload rfl ?_
            refine v_aaldn V31 (L' := 3) (by decide) (by decide) rfl f38 (by omega) (by omega) (fun j39 f40 => ?_)
            refine q_aload rfl (by decide) ?_
            refine q_iload rfl ?_
            refine q_callv rfl (by decide) (V31.lv g0) (Nat.le_of_ble_eq_true rfl) (Nat.le_of_ble_eq_true rfl) (by rw [V31.2.2.1]; decide) (by rw [V31.2.2.2]; decide) ?_
            refine xC.up (tv62 (x0 := x0) (x1 := j39) (x2 := (x_vr h8 2 5 j4)) (x3 := x3) V31.set g0 f40 f35 (fun o41 g42 hp => ?_)) (by omega)
            obtain ⟨hg43, rfl⟩ := hp
            have V46 := VI.after (mc := 0) (ms := 0) V31 hg43
            show x_seq _ _ _ _ ([.inr (.inr (7, x0)), .inl x1, .inl x2, .inl x3, .inr (.inr (2, j4)), .inr (.inr (1, (x_vr h8 2 5 j4)))], [], x_setc g42 (x_ce (x_setc (x_setc (x_setc (x_setc h8 0 0) (x_ce h8 + 1) (x_so h8 + 6)) 0 0) (x_ce (x_setc (x_setc h8 0 0) (x_ce h8 + 1) (x_so h8 + 6)) + 1) (x_so (x_setc (x_setc h8 0 0) (x_ce h8 + 1) (x_so h8 + 6)) + 6)) + 0) (x_so (x_setc (x_setc (x_setc (x_setc h8 0 0) (x_ce h8 + 1) (x_so h8 + 6)) 0 0) (x_ce (x_setc (x_setc h8 0 0) (x_ce h8 + 1) (x_so h8 + 6)) + 1) (x_so (x_setc (x_setc h8 0 0) (x_ce h8 + 1) (x_so h8 + 6)) + 6)) + 0))
            generalize x_setc g42 (x_ce (x_setc (x_setc (x_setc (x_setc h8 0 0) (x_ce h8 + 1) (x_so h8 + 6)) 0 0) (x_ce (x_setc (x_setc h8 0 0) (x_ce h8 + 1) (x_so h8 + 6)) + 1) (x_so (x_setc (x_setc h8 0 0) (x_ce h8 + 1) (x_so h8 + 6)) + 6)) + 0) (x_so (x_setc (x_setc (x_setc (x_setc h8 0 0) (x_ce h8 + 1) (x_so h8 + 6)) 0 0) (x_ce (x_setc (x_setc h8 0 0) (x_ce h8 + 1) (x_so h8 + 6)) + 1) (x_so (x_setc (x_setc h8 0 0) (x_ce h8 + 1) (x_so h8 + 6)) + 6)) + 0) = h47 at V46 ⊢
            refine v_iconst (k := 1) rfl (fun v48 e49 => ?_)
            exact q_zret (i32_01 (by omega)) (hZ _ _ (Or.inl ⟨⟨V46.1, V46.2.1⟩, ⟨_, rfl, by omega⟩⟩))
          · skip
            refine q_goto ?_
            refine xR.blk c63_49 ?_
            refine v_iconst (k := 0) rfl (fun v50 e51 => ?_)
            exact q_zret (i32_01 (by omega)) (hZ _ _ (Or.inl ⟨⟨V31.1, V31.2.1⟩, ⟨_, rfl, by omega⟩⟩))
      · exact hZ _ _ (Or.inr ⟨hg28, k9, rfl⟩)
    · exact hZ _ _ (Or.inr ⟨hg20, k9, rfl⟩)
  · exact hZ _ _ (Or.inr ⟨hg3, k9, rfl⟩)
theorem tv64 {c : xP} {h : xH} {Z : xO → xH → Prop} {x0 : Nat} {x1 : Nat} {x2 : Nat} {x3 : Int32} (V : VI c 0 0 h) (g0 : L c 7 x0) (g1 : L c 3 x1) (g2 : L c 1 x2) (g3 : -1 ≤ x3.toInt ∧ x3.toInt ≤ 11) (hZ : ∀ (o : xO) (g : xH), (CI g ∧ x_pj g = c) ∧ (∃ v : Int32, o = .inl (some (.inl v)) ∧ 0 ≤ v.toInt ∧ v.toInt ≤ 1) → Z o g) : xC 100 64 [.inr (.inr (7, x0)), .inr (.inr (3, x1)), .inr (.inr (1, x2)), .inl x3] h Z := by
  refine ⟨rfl, V.2.2.1, V.2.2.2, ?_⟩
  show xR _ 64 0 ([.inr (.inr (7, x0)), .inr (.inr (3, x1)), .inr (.inr (1, x2)), .inl x3], [], h) Z
  refine xR.blk c64_0 ?_
  refine q_iload rfl ?_
  refine v_iconst (k := -1) rfl (fun v1 e2 => ?_)
  refine v_icmp_ne (fun d3 => ?_) (fun d3 => ?_)
  · skip
    refine xR.blk c64_7 ?_
    refine q_aload rfl (by decide) ?_
    refine q_aload rfl (by decide) ?_
    refine q_aload rfl (by decide) ?_
    refine q_iload rfl ?_
    refine q_callv rfl (by decide) (V.lv g1) (Nat.le_of_ble_eq_true rfl) (Nat.le_of_ble_eq_true rfl) (by rw [V.2.2.1]; decide) (by rw [V.2.2.2]; decide) ?_
    refine xC.up (tv14 (x0 := x1) (x1 := x3) V.set g1 (fun o4 g5 hp => ?_)) (by omega)
    obtain ⟨rfl, ⟨v7, rfl⟩⟩ := hp
    show x_seq _ _ _ _ ([.inr (.inr (7, x0)), .inr (.inr (3, x1)), .inr (.inr (1, x2)), .inl x3], [.inl v7, .inr (.inr (1, x2)), .inr (.inr (7, x0))], h)
    refine q_callv rfl (by decide) (V.lv g0) (Nat.le_of_ble_eq_true rfl) (Nat.le_of_ble_eq_true rfl) (by rw [V.2.2.1]; decide) (by rw [V.2.2.2]; decide) ?_
    refine xC.up (tv53 (x0 := x0) (x1 := x2) (x2 := v7) V.set g0 g2 (fun o9 g10 hp => ?_)) (by omega)
    obtain ⟨hg11, rfl⟩ := hp
    have V14 := VI.after (mc := 0) (ms := 0) V hg11
    show x_seq _ _ _ _ ([.inr (.inr (7, x0)), .inr (.inr (3, x1)), .inr (.inr (1, x2)), .inl x3], [], x_setc g10 (x_ce h + 0) (x_so h + 0))
    generalize x_setc g10 (x_ce h + 0) (x_so h + 0) = h15 at V14 ⊢
    refine q_aload rfl (by decide) ?_
    refine q_iload rfl ?_
    refine v_iconst (k := 1) rfl (fun v16 e17 => ?_)
    refine v_iadd (by have b8 := Int32.toInt_lt x3; have b9 := Int32.toInt_lt v16; omega) (fun v18 e19 => ?_)
    refine v_iconst (k := 4) rfl (fun v20 e21 => ?_)
    refine v_irem e21 (by decide) (by omega) (fun v22 e23 => ?_)
    refine v_pfi V14 rfl (fun lo hi hm => by simp only [x_rgl, List.mem_cons, Prod.mk.injEq, List.not_mem_nil, or_false] at hm; omega) rfl g1 (fun h24 V25 => ?_)
    refine v_iconst (k := 1) rfl (fun v26 e27 => ?_)
    exact q_zret (i32_01 (by omega)) (hZ _ _ ⟨⟨V25.1, V25.2.1⟩, ⟨_, rfl, by omega⟩⟩)
  · skip
    refine v_iconst (k := 0) rfl (fun v28 e29 => ?_)
    exact q_zret (i32_01 (by omega)) (hZ _ _ ⟨⟨V.1, V.2.1⟩, ⟨_, rfl, by omega⟩⟩)
theorem tv65 {c : xP} {h : xH} {Z : xO → xH → Prop} {x0 : Nat} {x1 : Nat} {x2 : Nat} {x3 : Nat} (V : VI c 0 0 h) (g0 : L c 7 x0) (g1 : L c 3 x1) (g2 : L c 1 x2) (g3 : L c 2 x3) (hZ : ∀ (o : xO) (g : xH), (CI g ∧ x_pj g = c) ∧ (∃ v : Int32, o = .inl (some (.inl v)) ∧ 0 ≤ v.toInt ∧ v.toInt ≤ 1) → Z o g) : xC 1000 65 [.inr (.inr (7, x0)), .inr (.inr (3, x1)), .inr (.inr (1, x2)), .inr (.inr (2, x3))] h Z := by
  refine ⟨rfl, V.2.2.1, V.2.2.2, ?_⟩
  show xR _ 65 0 ([.inr (.inr (7, x0)), .inr (.inr (3, x1)), .inr (.inr (1, x2)), .inr (.inr (2, x3)), .inr (.inr (0, 0)), .inr (.inr (0, 0)), .inr (.inr (0, 0)), .inr (.inr (0, 0))], [], h) Z
  refine xR.blk c65_0 ?_
  refine q_aload rfl (by decide) ?_
  refine v_iconst (k := 20) rfl (fun v1 e2 => ?_)
  refine v_iconst (k := 25) rfl (fun v3 e4 => ?_)
  refine q_callv rfl (by decide) (V.lv g1) (Nat.le_of_ble_eq_true rfl) (Nat.le_of_ble_eq_true rfl) (by rw [V.2.2.1]; decide) (by rw [V.2.2.2]; decide) ?_
  refine xC.up (tv29 (x0 := x1) (x1 := v1) (x2 := v3) V.set g1 (by omega) (by omega) (fun o5 g6 hp => ?_)) (by omega)
  obtain ⟨rfl, ⟨v8, rfl, f9⟩⟩ := hp
  show x_seq _ _ _ _ ([.inr (.inr (7, x0)), .inr (.inr (3, x1)), .inr (.inr (1, x2)), .inr (.inr (2, x3)), .inr (.inr (0, 0)), .inr (.inr (0, 0)), .inr (.inr (0, 0)), .inr (.inr (0, 0))], [.inl v8], h)
  refine q_istore (Nat.le_of_ble_eq_true rfl) ?_
  show x_seq _ _ _ _ ([.inr (.inr (7, x0)), .inr (.inr (3, x1)), .inr (.inr (1, x2)), .inr (.inr (2, x3)), .inl v8, .inr (.inr (0, 0)), .inr (.inr (0, 0)), .inr (.inr (0, 0))], [], h)
  refine q_iload rfl ?_
  refine v_iconst (k := -1) rfl (fun v10 e11 => ?_)
  refine v_icmp_ne (fun d12 => ?_) (fun d12 => ?_)
  · skip
    refine xR.blk c65_18 ?_
    refine v_iconst (k := 0) rfl (fun v13 e14 => ?_)
    refine q_istore (Nat.le_of_ble_eq_true rfl) ?_
    show x_seq _ _ _ _ ([.inr (.inr (7, x0)), .inr (.inr (3, x1)), .inr (.inr (1, x2)), .inr (.inr (2, x3)), .inl v8, .inl v13, .inr (.inr (0, 0)), .inr (.inr (0, 0))], [], h)
    refine q_goto ?_
    have lp16 : ∀ (m15 : Nat) (ylp16_5 : Int32) (zlp16_6 : xV) (zlp16_7 : xV) (h18 : xH), VI c 0 0 h18 → (0 ≤ ylp16_5.toInt ∧ ylp16_5.toInt ≤ 4) → (4 - ylp16_5.toInt).toNat < m15 → xR (700 + 40 * m15) 65 21 ([.inr (.inr (7, x0)), .inr (.inr (3, x1)), .inr (.inr (1, x2)), .inr (.inr (2, x3)), .inl v8, .inl ylp16_5, zlp16_6, zlp16_7], [], h18) Z := by
      intro m15
      induction m15 with
      | zero => intro ylp16_5 zlp16_6 zlp16_7 h18 V19 klp16_5 kmlp16; exact absurd kmlp16 (by omega)
      | succ m15 ih17 =>
        intro ylp16_5 zlp16_6 zlp16_7 h18 V19 klp16_5 kmlp16
        rw [show 700 + 40 * (m15 + 1) = 700 + 40 * m15 + 40 by omega]
        refine xR.blk c65_21 ?_
        refine q_iload rfl ?_
        refine v_iconst (k := 4) rfl (fun v20 e21 => ?_)
        refine v_icmp_ge (fun d22 => ?_) (fun d22 => ?_)
        · skip
          refine xR.blk c65_105 ?_
          refine v_iconst (k := 0) rfl (fun v23 e24 => ?_)
          exact q_zret (i32_01 (by omega)) (hZ _ _ ⟨⟨V19.1, V19.2.1⟩, ⟨_, rfl, by omega⟩⟩)
        · skip
          refine q_aload rfl (by decide) ?_
          refine q_aload rfl (by decide) ?_
          refine v_gfrn V19 (by decide) rfl g2 (fun j25 f26 => ?_)
          refine q_iload rfl ?_
          refine v_iconst (k := -1) rfl (fun v27 e28 => ?_)
          refine q_callv rfl (by decide) (V19.lv g1) (Nat.le_of_ble_eq_true rfl) (Nat.le_of_ble_eq_true rfl) (by rw [V19.2.2.1]; decide) (by rw [V19.2.2.2]; decide) ?_
          refine xC.up (tv31 (x0 := x1) (x1 := j25) (x2 := ylp16_5) (x3 := v27) V19.set g1 f26 (by omega) (fun o29 g30 hp => ?_)) (by omega)
          obtain ⟨rfl, ⟨v32, rfl, f33⟩⟩ := hp
          show x_seq _ _ _ _ ([.inr (.inr (7, x0)), .inr (.inr (3, x1)), .inr (.inr (1, x2)), .inr (.inr (2, x3)), .inl v8, .inl ylp16_5, zlp16_6, zlp16_7], [.inl v32], h18)
          refine q_istore (Nat.le_of_ble_eq_true rfl) ?_
          show x_seq _ _ _ _ ([.inr (.inr (7, x0)), .inr (.inr (3, x1)), .inr (.inr (1, x2)), .inr (.inr (2, x3)), .inl v8, .inl ylp16_5, .inl v32, zlp16_7], [], h18)
          refine q_iload rfl ?_
          refine v_iconst (k := -1) rfl (fun v34 e35 => ?_)
          refine v_icmp_ne (fun d36 => ?_) (fun d36 => ?_)
          · skip
            refine xR.blk c65_50 ?_
            refine q_aload rfl (by decide) ?_
            refine q_aload rfl (by decide) ?_
            refine v_iconst (k := 0) rfl (fun v37 e38 => ?_)
            refine q_iload rfl ?_
            refine q_callv rfl (by decide) (V19.lv g1) (Nat.le_of_ble_eq_true rfl) (Nat.le_of_ble_eq_true rfl) (by rw [V19.2.2.1]; decide) (by rw [V19.2.2.2]; decide) ?_
            refine xC.up (tv31 (x0 := x1) (x1 := x3) (x2 := v37) (x3 := v32) V19.set g1 g3 (by omega) (fun o39 g40 hp => ?_)) (by omega)
            obtain ⟨rfl, ⟨v42, rfl, f43⟩⟩ := hp
            show x_seq _ _ _ _ ([.inr (.inr (7, x0)), .inr (.inr (3, x1)), .inr (.inr (1, x2)), .inr (.inr (2, x3)), .inl v8, .inl ylp16_5, .inl v32, zlp16_7], [.inl v42], h18)
            refine q_goto ?_
            refine xR.blk c65_58 ?_
            refine q_istore (Nat.le_of_ble_eq_true rfl) ?_
            show x_seq _ _ _ _ ([.inr (.inr (7, x0)), .inr (.inr (3, x1)), .inr (.inr (1, x2)), .inr (.inr (2, x3)), .inl v8, .inl ylp16_5, .inl v32, .inl v42], [], h18)
            refine q_iload rfl ?_
            refine v_iconst (k := -1) rfl (fun v44 e45 => ?_)
            refine v_icmp_eq (fun d46 => ?_) (fun d46 => ?_)
            · skip
              refine xR.blk c65_99 ?_
              refine v_iinc (k := 1) rfl rfl (by omega) (by have b9 := Int32.toInt_lt ylp16_5; omega) (fun v47 e48 => ?_)
              show x_seq _ _ _ _ ([.inr (.inr (7, x0)), .inr (.inr (3, x1)), .inr (.inr (1, x2)), .inr (.inr (2, x3)), .inl v8, .inl v47, .inl v32, .inl v42], [], h18)
              refine q_goto ?_
              exact (ih17 v47 (.inl v32) (.inl v42) _ V19 (by omega) (by omega)).up (by omega)
            · skip
              refine q_aload rfl (by decide) ?_
              refine q_aload rfl (by decide) ?_
              refine q_aload rfl (by decide) ?_
              refine q_iload rfl ?_
              refine q_callv rfl (by decide) (V19.lv g0) (Nat.le_of_ble_eq_true rfl) (Nat.le_of_ble_eq_true rfl) (by rw [V19.2.2.1]; decide) (by rw [V19.2.2.2]; decide) ?_
              refine xC.up (tv64 (x0 := x0) (x1 := x1) (x2 := x2) (x3 := v32) V19.set g0 g1 g2 (by omega) (fun o49 g50 hp => ?_)) (by omega)
              obtain ⟨hg51, ⟨v52, rfl, f53⟩⟩ := hp
              have V54 := VI.after (mc := 0) (ms := 0) V19 hg51
              show x_seq _ _ _ _ ([.inr (.inr (7, x0)), .inr (.inr (3, x1)), .inr (.inr (1, x2)), .inr (.inr (2, x3)), .inl v8, .inl ylp16_5, .inl v32, .inl v42], [.inl v52], x_setc g50 (x_ce h18 + 0) (x_so h18 + 0))
              generalize x_setc g50 (x_ce h18 + 0) (x_so h18 + 0) = h55 at V54 ⊢
              refine q_pop rfl ?_
              refine q_aload rfl (by decide) ?_
              refine q_aload rfl (by decide) ?_
              refine q_aload rfl (by decide) ?_
              refine q_iload rfl ?_
              refine q_callv rfl (by decide) (V54.lv g1) (Nat.le_of_ble_eq_true rfl) (Nat.le_of_ble_eq_true rfl) (by rw [V54.2.2.1]; decide) (by rw [V54.2.2.2]; decide) ?_
              refine xC.up (tv14 (x0 := x1) (x1 := v8) V54.set g1 (fun o56 g57 hp => ?_)) (by omega)
              obtain ⟨rfl, ⟨v59, rfl⟩⟩ := hp
              show x_seq _ _ _ _ ([.inr (.inr (7, x0)), .inr (.inr (3, x1)), .inr (.inr (1, x2)), .inr (.inr (2, x3)), .inl v8, .inl ylp16_5, .inl v32, .inl v42], [.inl v59, .inr (.inr (1, x2)), .inr (.inr (7, x0))], h55)
              refine q_callv rfl (by decide) (V54.lv g0) (Nat.le_of_ble_eq_true rfl) (Nat.le_of_ble_eq_true rfl) (by rw [V54.2.2.1]; decide) (by rw [V54.2.2.2]; decide) ?_
              refine xC.up (tv53 (x0 := x0) (x1 := x2) (x2 := v59) V54.set g0 g2 (fun o61 g62 hp => ?_)) (by omega)
              obtain ⟨hg63, rfl⟩ := hp
              have V66 := VI.after (mc := 0) (ms := 0) V54 hg63
              show x_seq _ _ _ _ ([.inr (.inr (7, x0)), .inr (.inr (3, x1)), .inr (.inr (1, x2)), .inr (.inr (2, x3)), .inl v8, .inl ylp16_5, .inl v32, .inl v42], [], x_setc g62 (x_ce h55 + 0) (x_so h55 + 0))
              generalize x_setc g62 (x_ce h55 + 0) (x_so h55 + 0) = h67 at V66 ⊢
              refine q_aload rfl (by decide) ?_
              refine q_aload rfl (by decide) ?_
              refine q_aload rfl (by decide) ?_
              refine q_iload rfl ?_
              refine q_callv rfl (by decide) (V66.lv g1) (Nat.le_of_ble_eq_true rfl) (Nat.le_of_ble_eq_true rfl) (by rw [V66.2.2.1]; decide) (by rw [V66.2.2.2]; decide) ?_
              refine xC.up (tv14 (x0 := x1) (x1 := v42) V66.set g1 (fun o68 g69 hp => ?_)) (by omega)
              obtain ⟨rfl, ⟨v71, rfl⟩⟩ := hp
              show x_seq _ _ _ _ ([.inr (.inr (7, x0)), .inr (.inr (3, x1)), .inr (.inr (1, x2)), .inr (.inr (2, x3)), .inl v8, .inl ylp16_5, .inl v32, .inl v42], [.inl v71, .inr (.inr (1, x2)), .inr (.inr (7, x0))], h67)
              refine q_callv rfl (by decide) (V66.lv g0) (Nat.le_of_ble_eq_true rfl) (Nat.le_of_ble_eq_true rfl) (by rw [V66.2.2.1]; decide) (by rw [V66.2.2.2]; decide) ?_
              refine xC.up (tv53 (x0 := x0) (x1 := x2) (x2 := v71) V66.set g0 g2 (fun o73 g74 hp => ?_)) (by omega)
              obtain ⟨hg75, rfl⟩ := hp
              have V78 := VI.after (mc := 0) (ms := 0) V66 hg75
              show x_seq _ _ _ _ ([.inr (.inr (7, x0)), .inr (.inr (3, x1)), .inr (.inr (1, x2)), .inr (.inr (2, x3)), .inl v8, .inl ylp16_5, .inl v32, .inl v42], [], x_setc g74 (x_ce h67 + 0) (x_so h67 + 0))
              generalize x_setc g74 (x_ce h67 + 0) (x_so h67 + 0) = h79 at V78 ⊢
              refine v_iconst (k := 1) rfl (fun v80 e81 => ?_)
              exact q_zret (i32_01 (by omega)) (hZ _ _ ⟨⟨V78.1, V78.2.1⟩, ⟨_, rfl, by omega⟩⟩)
          · skip
            refine v_iconst (k := -1) rfl (fun v82 e83 => ?_)
            refine q_goto ?_
            refine xR.blk c65_58 ?_
            refine q_istore (Nat.le_of_ble_eq_true rfl) ?_
            show x_seq _ _ _ _ ([.inr (.inr (7, x0)), .inr (.inr (3, x1)), .inr (.inr (1, x2)), .inr (.inr (2, x3)), .inl v8, .inl ylp16_5, .inl v32, .inl v82], [], h18)
            refine q_iload rfl ?_
            refine v_iconst (k := -1) rfl (fun v84 e85 => ?_)
            refine v_icmp_eq (fun d86 => ?_) (fun d86 => ?_)
            · skip
              refine xR.blk c65_99 ?_
              refine v_iinc (k := 1) rfl rfl (by omega) (by have b9 := Int32.toInt_lt ylp16_5; omega) (fun v87 e88 => ?_)
              show x_seq _ _ _ _ ([.inr (.inr (7, x0)), .inr (.inr (3, x1)), .inr (.inr (1, x2)), .inr (.inr (2, x3)), .inl v8, .inl v87, .inl v32, .inl v82], [], h18)
              refine q_goto ?_
              exact (ih17 v87 (.inl v32) (.inl v82) _ V19 (by omega) (by omega)).up (by omega)
            · skip
              refine q_aload rfl (by decide) ?_
              refine q_aload rfl (by decide) ?_
              refine q_aload rfl (by decide) ?_
              refine q_iload rfl ?_
              refine q_callv rfl (by decide) (V19.lv g0) (Nat.le_of_ble_eq_true rfl) (Nat.le_of_ble_eq_true rfl) (by rw [V19.2.2.1]; decide) (by rw [V19.2.2.2]; decide) ?_
              refine xC.up (tv64 (x0 := x0) (x1 := x1) (x2 := x2) (x3 := v32) V19.set g0 g1 g2 (by omega) (fun o89 g90 hp => ?_)) (by omega)
              obtain ⟨hg91, ⟨v92, rfl, f93⟩⟩ := hp
              have V94 := VI.after (mc := 0) (ms := 0) V19 hg91
              show x_seq _ _ _ _ ([.inr (.inr (7, x0)), .inr (.inr (3, x1)), .inr (.inr (1, x2)), .inr (.inr (2, x3)), .inl v8, .inl ylp16_5, .inl v32, .inl v82], [.inl v92], x_setc g90 (x_ce h18 + 0) (x_so h18 + 0))
              generalize x_setc g90 (x_ce h18 + 0) (x_so h18 + 0) = h95 at V94 ⊢
              refine q_pop rfl ?_
              refine q_aload rfl (by decide) ?_
              refine q_aload rfl (by decide) ?_
              refine q_aload rfl (by decide) ?_
              refine q_iload rfl ?_
              refine q_callv rfl (by decide) (V94.lv g1) (Nat.le_of_ble_eq_true rfl) (Nat.le_of_ble_eq_true rfl) (by rw [V94.2.2.1]; decide) (by rw [V94.2.2.2]; decide) ?_
              refine xC.up (tv14 (x0 := x1) (x1 := v8) V94.set g1 (fun o96 g97 hp => ?_)) (by omega)
              obtain ⟨rfl, ⟨v99, rfl⟩⟩ := hp
              show x_seq _ _ _ _ ([.inr (.inr (7, x0)), .inr (.inr (3, x1)), .inr (.inr (1, x2)), .inr (.inr (2, x3)), .inl v8, .inl ylp16_5, .inl v32, .inl v82], [.inl v99, .inr (.inr (1, x2)), .inr (.inr (7, x0))], h95)
              refine q_callv rfl (by decide) (V94.lv g0) (Nat.le_of_ble_eq_true rfl) (Nat.le_of_ble_eq_true rfl) (by rw [V94.2.2.1]; decide) (by rw [V94.2.2.2]; decide) ?_
              refine xC.up (tv53 (x0 := x0) (x1 := x2) (x2 := v99) V94.set g0 g2 (fun o101 g102 hp => ?_)) (by omega)
              obtain ⟨hg103, rfl⟩ := hp
              have V106 := VI.after (mc := 0) (ms := 0) V94 hg103
              show x_seq _ _ _ _ ([.inr (.inr (7, x0)), .inr (.inr (3, x1)), .inr (.inr (1, x2)), .inr (.inr (2, x3)), .inl v8, .inl ylp16_5, .inl v32, .inl v82], [], x_setc g102 (x_ce h95 + 0) (x_so h95 + 0))
              generalize x_setc g102 (x_ce h95 + 0) (x_so h95 + 0) = h107 at V106 ⊢
              refine q_aload rfl (by decide) ?_
              refine q_aload rfl (by decide) ?_
              refine q_aload rfl (by decide) ?_
              refine q_iload rfl ?_
              refine q_callv rfl (by decide) (V106.lv g1) (Nat.le_of_ble_eq_true rfl) (Nat.le_of_ble_eq_true rfl) (by rw [V106.2.2.1]; decide) (by rw [V106.2.2.2]; decide) ?_
              refine xC.up (tv14 (x0 := x1) (x1 := v82) V106.set g1 (fun o108 g109 hp => ?_)) (by omega)
              obtain ⟨rfl, ⟨v111, rfl⟩⟩ := hp
              show x_seq _ _ _ _ ([.inr (.inr (7, x0)), .inr (.inr (3, x1)), .inr (.inr (1, x2)), .inr (.inr (2, x3)), .inl v8, .inl ylp16_5, .inl v32, .inl v82], [.inl v111, .inr (.inr (1, x2)), .inr (.inr (7, x0))], h107)
              refine q_callv rfl (by decide) (V106.lv g0) (Nat.le_of_ble_eq_true rfl) (Nat.le_of_ble_eq_true rfl) (by rw [V106.2.2.1]; decide) (by rw [V106.2.2.2]; decide) ?_
              refine xC.up (tv53 (x0 := x0) (x1 := x2) (x2 := v111) V106.set g0 g2 (fun o113 g114 hp => ?_)) (by omega)
              obtain ⟨hg115, rfl⟩ := hp
              have V118 := VI.after (mc := 0) (ms := 0) V106 hg115
              show x_seq _ _ _ _ ([.inr (.inr (7, x0)), .inr (.inr (3, x1)), .inr (.inr (1, x2)), .inr (.inr (2, x3)), .inl v8, .inl ylp16_5, .inl v32, .inl v82], [], x_setc g114 (x_ce h107 + 0) (x_so h107 + 0))
              generalize x_setc g114 (x_ce h107 + 0) (x_so h107 + 0) = h119 at V118 ⊢
              refine v_iconst (k := 1) rfl (fun v120 e121 => ?_)
              exact q_zret (i32_01 (by omega)) (hZ _ _ ⟨⟨V118.1, V118.2.1⟩, ⟨_, rfl, by omega⟩⟩)
    exact (lp16 5 v13 (.inr (.inr (0, 0))) (.inr (.inr (0, 0))) _ V (by omega) (by omega)).up (by omega)
  · skip
    refine v_iconst (k := 0) rfl (fun v122 e123 => ?_)
    exact q_zret (i32_01 (by omega)) (hZ _ _ ⟨⟨V.1, V.2.1⟩, ⟨_, rfl, by omega⟩⟩)
theorem tv66 {c : xP} {h : xH} {Z : xO → xH → Prop} {x0 : Nat} {x1 : Nat} {x2 : Int32} (V : VI c 0 0 h) (g0 : L c 7 x0) (g1 : L c 1 x1) (hZ : ∀ (o : xO) (g : xH), (CI g ∧ x_pj g = c) ∧ (o = .inl none) → Z o g) : xC 400 66 [.inr (.inr (7, x0)), .inr (.inr (1, x1)), .inl x2] h Z := by
  refine ⟨rfl, V.2.2.1, V.2.2.2, ?_⟩
  show xR _ 66 0 ([.inr (.inr (7, x0)), .inr (.inr (1, x1)), .inl x2], [], h) Z
  refine xR.blk c66_0 ?_
  refine q_aload rfl (by decide) ?_
  refine q_iload rfl ?_
  refine q_null ?_
  refine q_callv rfl (by decide) (V.lv g0) (Nat.le_of_ble_eq_true rfl) (Nat.le_of_ble_eq_true rfl) (by rw [V.2.2.1]; decide) (by rw [V.2.2.2]; decide) ?_
  refine xC.up (tv52 (x0 := x0) (x1 := x2) (x2 := 0) V.set g0 (Nat.zero_le _) (fun o1 g2 hp => ?_)) (by omega)
  obtain ⟨hg3, rfl⟩ := hp
  have V6 := VI.after (mc := 0) (ms := 0) V hg3
  show x_seq _ _ _ _ ([.inr (.inr (7, x0)), .inr (.inr (1, x1)), .inl x2], [], x_setc g2 (x_ce h + 0) (x_so h + 0))
  generalize x_setc g2 (x_ce h + 0) (x_so h + 0) = h7 at V6 ⊢
  refine q_aload rfl (by decide) ?_
  refine v_gfrn V6 (by decide) rfl g1 (fun j8 f9 => ?_)
  refine q_iload rfl ?_
  refine q_callv rfl (by decide) (V6.lv f9) (Nat.le_of_ble_eq_true rfl) (Nat.le_of_ble_eq_true rfl) (by rw [V6.2.2.1]; decide) (by rw [V6.2.2.2]; decide) ?_
  refine xC.up (tv38 (x0 := j8) (x1 := x2) V6.set f9 (fun o10 g11 hp => ?_)) (by omega)
  obtain ⟨hg12, rfl⟩ := hp
  have V15 := VI.after (mc := 0) (ms := 0) V6 hg12
  show x_seq _ _ _ _ ([.inr (.inr (7, x0)), .inr (.inr (1, x1)), .inl x2], [], x_setc g11 (x_ce h7 + 0) (x_so h7 + 0))
  generalize x_setc g11 (x_ce h7 + 0) (x_so h7 + 0) = h16 at V15 ⊢
  exact q_ret (hZ _ _ ⟨⟨V15.1, V15.2.1⟩, rfl⟩)
theorem tv67 {c : xP} {h : xH} {Z : xO → xH → Prop} {x0 : Nat} {x1 : Nat} {x2 : Nat} {x3 : Int32} (V : VI c 0 0 h) (g0 : L c 7 x0) (g1 : L c 3 x1) (g2 : L c 1 x2) (hZ : ∀ (o : xO) (g : xH), (CI g ∧ x_pj g = c) ∧ (o = .inl none) → Z o g) : xC 2000 67 [.inr (.inr (7, x0)), .inr (.inr (3, x1)), .inr (.inr (1, x2)), .inl x3] h Z := by
  refine ⟨rfl, V.2.2.1, V.2.2.2, ?_⟩
  show xR _ 67 0 ([.inr (.inr (7, x0)), .inr (.inr (3, x1)), .inr (.inr (1, x2)), .inl x3, .inr (.inr (0, 0)), .inr (.inr (0, 0))], [], h) Z
  refine xR.blk c67_0 ?_
  refine q_iload rfl ?_
  refine q_call (Nat.le_of_ble_eq_true rfl) (Nat.le_of_ble_eq_true rfl) (by rw [V.2.2.1]; decide) (by rw [V.2.2.2]; decide) ?_
  refine xC.up (tv26 (x0 := x3) V.set  (fun o1 g2 hp => ?_)) (by omega)
  obtain ⟨rfl, ⟨v4, rfl, f5⟩⟩ := hp
  show x_seq _ _ _ _ ([.inr (.inr (7, x0)), .inr (.inr (3, x1)), .inr (.inr (1, x2)), .inl x3, .inr (.inr (0, 0)), .inr (.inr (0, 0))], [.inl v4], h)
  refine v_if_ne (fun d6 => ?_) (fun d6 => ?_)
  · skip
    refine xR.blk c67_14 ?_
    refine q_aload rfl (by decide) ?_
    refine v_gfrn V (by decide) rfl g1 (fun j7 f8 => ?_)
    refine q_aload rfl (by decide) ?_
    refine q_iload rfl ?_
    refine q_callv rfl (by decide) (V.lv g1) (Nat.le_of_ble_eq_true rfl) (Nat.le_of_ble_eq_true rfl) (by rw [V.2.2.1]; decide) (by rw [V.2.2.2]; decide) ?_
    refine xC.up (tv28 (x0 := x1) (x1 := x3) V.set g1 (by omega) (fun o9 g10 hp => ?_)) (by omega)
    obtain ⟨rfl, ⟨v12, rfl, f13⟩⟩ := hp
    show x_seq _ _ _ _ ([.inr (.inr (7, x0)), .inr (.inr (3, x1)), .inr (.inr (1, x2)), .inl x3, .inr (.inr (0, 0)), .inr (.inr (0, 0))], [.inl v12, .inr (.inr (16, j7))], h)
    refine v_aaldn V (L' := 24) (by decide) (by decide) rfl f8 (by omega) (by omega) (fun j14 f15 => ?_)
    refine q_astore (Nat.le_of_ble_eq_true rfl) ?_
    show x_seq _ _ _ _ ([.inr (.inr (7, x0)), .inr (.inr (3, x1)), .inr (.inr (1, x2)), .inl x3, .inr (.inr (2, j14)), .inr (.inr (0, 0))], [], h)
    refine q_aload rfl (by decide) ?_
    refine q_callv rfl (by decide) (V.lv f15) (Nat.le_of_ble_eq_true rfl) (Nat.le_of_ble_eq_true rfl) (by rw [V.2.2.1]; decide) (by rw [V.2.2.2]; decide) ?_
    refine xC.up (tv11 (x0 := j14) V.set f15 (fun o16 g17 hp => ?_)) (by omega)
    obtain ⟨rfl, ⟨v19, rfl, f20⟩⟩ := hp
    show x_seq _ _ _ _ ([.inr (.inr (7, x0)), .inr (.inr (3, x1)), .inr (.inr (1, x2)), .inl x3, .inr (.inr (2, j14)), .inr (.inr (0, 0))], [.inl v19], h)
    refine v_if_ne (fun d21 => ?_) (fun d21 => ?_)
    · skip
      refine xR.blk c67_41 ?_
      refine q_aload rfl (by decide) ?_
      refine v_gfrn V (by decide) rfl g2 (fun j22 f23 => ?_)
      refine v_gfir V (lo := 0) (hi := 2) (by decide) f23 (fun v24 e25 => ?_)
      refine q_aload rfl (by decide) ?_
      refine v_gfir V (lo := 0) (hi := 2) (by decide) g1 (fun v26 e27 => ?_)
      refine v_icmp_ne (fun d28 => ?_) (fun d28 => ?_)
      · skip
        refine xR.blk c67_66 ?_
        refine q_aload rfl (by decide) ?_
        refine q_aload rfl (by decide) ?_
        refine q_aload rfl (by decide) ?_
        refine q_aload rfl (by decide) ?_
        refine q_aload rfl (by decide) ?_
        refine v_iconst (k := 0) rfl (fun v29 e30 => ?_)
        refine v_iconst (k := -1) rfl (fun v31 e32 => ?_)
        refine q_callv rfl (by decide) (V.lv g1) (Nat.le_of_ble_eq_true rfl) (Nat.le_of_ble_eq_true rfl) (by rw [V.2.2.1]; decide) (by rw [V.2.2.2]; decide) ?_
        refine xC.up (tv31 (x0 := x1) (x1 := j14) (x2 := v29) (x3 := v31) V.set g1 f15 (by omega) (fun o33 g34 hp => ?_)) (by omega)
        obtain ⟨rfl, ⟨v36, rfl, f37⟩⟩ := hp
        show x_seq _ _ _ _ ([.inr (.inr (7, x0)), .inr (.inr (3, x1)), .inr (.inr (1, x2)), .inl x3, .inr (.inr (2, j14)), .inr (.inr (0, 0))], [.inl v36, .inr (.inr (1, x2)), .inr (.inr (3, x1)), .inr (.inr (7, x0))], h)
        refine q_callv rfl (by decide) (V.lv g0) (Nat.le_of_ble_eq_true rfl) (Nat.le_of_ble_eq_true rfl) (by rw [V.2.2.1]; decide) (by rw [V.2.2.2]; decide) ?_
        refine xC.up (tv64 (x0 := x0) (x1 := x1) (x2 := x2) (x3 := v36) V.set g0 g1 g2 (by omega) (fun o38 g39 hp => ?_)) (by omega)
        obtain ⟨hg40, ⟨v41, rfl, f42⟩⟩ := hp
        have V43 := VI.after (mc := 0) (ms := 0) V hg40
        show x_seq _ _ _ _ ([.inr (.inr (7, x0)), .inr (.inr (3, x1)), .inr (.inr (1, x2)), .inl x3, .inr (.inr (2, j14)), .inr (.inr (0, 0))], [.inl v41], x_setc g39 (x_ce h + 0) (x_so h + 0))
        generalize x_setc g39 (x_ce h + 0) (x_so h + 0) = h44 at V43 ⊢
        refine q_goto ?_
        refine xR.blk c67_80 ?_
        refine q_istore (Nat.le_of_ble_eq_true rfl) ?_
        show x_seq _ _ _ _ ([.inr (.inr (7, x0)), .inr (.inr (3, x1)), .inr (.inr (1, x2)), .inl x3, .inr (.inr (2, j14)), .inl v41], [], h44)
        refine q_iload rfl ?_
        refine v_if_ne (fun d45 => ?_) (fun d45 => ?_)
        · skip
          refine xR.blk c67_94 ?_
          refine q_aload rfl (by decide) ?_
          refine q_aload rfl (by decide) ?_
          refine q_aload rfl (by decide) ?_
          refine v_gfi V43 g2 (fun v46 => ?_)
          refine q_callv rfl (by decide) (V43.lv g0) (Nat.le_of_ble_eq_true rfl) (Nat.le_of_ble_eq_true rfl) (by rw [V43.2.2.1]; decide) (by rw [V43.2.2.2]; decide) ?_
          refine xC.up (tv66 (x0 := x0) (x1 := x2) (x2 := v46) V43.set g0 g2 (fun o48 g49 hp => ?_)) (by omega)
          obtain ⟨hg50, rfl⟩ := hp
          have V53 := VI.after (mc := 0) (ms := 0) V43 hg50
          show x_seq _ _ _ _ ([.inr (.inr (7, x0)), .inr (.inr (3, x1)), .inr (.inr (1, x2)), .inl x3, .inr (.inr (2, j14)), .inl v41], [], x_setc g49 (x_ce h44 + 0) (x_so h44 + 0))
          generalize x_setc g49 (x_ce h44 + 0) (x_so h44 + 0) = h54 at V53 ⊢
          refine q_aload rfl (by decide) ?_
          refine q_stage ?_
          refine v_pfr V53 (by decide) rfl g2 (by rw [V53.cnt (n := 6) (by decide)]; decide) rfl (fun h55 V56 => ?_)
          refine q_aload rfl (by decide) ?_
          refine q_aload rfl (by decide) ?_
          refine v_pfr V56 (by decide) rfl g2 f15.2 rfl (fun h57 V58 => ?_)
          refine q_aload rfl (by decide) ?_
          refine q_aload rfl (by decide) ?_
          refine v_pfr V58 (by decide) rfl f15 g2.2 rfl (fun h59 V60 => ?_)
          refine q_aload rfl (by decide) ?_
          refine v_gfrn V60 (by decide) rfl g2 (fun j61 f62 => ?_)
          refine v_iconst (k := 2) rfl (fun v63 e64 => ?_)
          refine v_pfi V60 rfl (fun lo hi hm => by simp only [x_rgl, List.mem_cons, Prod.mk.injEq, List.not_mem_nil, or_false] at hm; omega) rfl f62 (fun h65 V66 => ?_)
          exact q_ret (hZ _ _ ⟨⟨V66.1, V66.2.1⟩, rfl⟩)
        · skip
          refine q_aload rfl (by decide) ?_
          refine q_aload rfl (by decide) ?_
          refine v_iconst (k := 4) rfl (fun v67 e68 => ?_)
          refine q_callv rfl (by decide) (V43.lv g0) (Nat.le_of_ble_eq_true rfl) (Nat.le_of_ble_eq_true rfl) (by rw [V43.2.2.1]; decide) (by rw [V43.2.2.2]; decide) ?_
          refine xC.up (tv59 (x0 := x0) (x1 := x2) (x2 := v67) V43.set g0 g2 (fun o69 g70 hp => ?_)) (by omega)
          obtain ⟨hg71, rfl⟩ := hp
          have V74 := VI.after (mc := 0) (ms := 0) V43 hg71
          show x_seq _ _ _ _ ([.inr (.inr (7, x0)), .inr (.inr (3, x1)), .inr (.inr (1, x2)), .inl x3, .inr (.inr (2, j14)), .inl v41], [], x_setc g70 (x_ce h44 + 0) (x_so h44 + 0))
          generalize x_setc g70 (x_ce h44 + 0) (x_so h44 + 0) = h75 at V74 ⊢
          exact q_ret (hZ _ _ ⟨⟨V74.1, V74.2.1⟩, rfl⟩)
      · skip
        refine q_aload rfl (by decide) ?_
        refine q_aload rfl (by decide) ?_
        refine q_aload rfl (by decide) ?_
        refine q_aload rfl (by decide) ?_
        refine q_callv rfl (by decide) (V.lv g0) (Nat.le_of_ble_eq_true rfl) (Nat.le_of_ble_eq_true rfl) (by rw [V.2.2.1]; decide) (by rw [V.2.2.2]; decide) ?_
        refine xC.up (tv65 (x0 := x0) (x1 := x1) (x2 := x2) (x3 := j14) V.set g0 g1 g2 f15 (fun o76 g77 hp => ?_)) (by omega)
        obtain ⟨hg78, ⟨v79, rfl, f80⟩⟩ := hp
        have V81 := VI.after (mc := 0) (ms := 0) V hg78
        show x_seq _ _ _ _ ([.inr (.inr (7, x0)), .inr (.inr (3, x1)), .inr (.inr (1, x2)), .inl x3, .inr (.inr (2, j14)), .inr (.inr (0, 0))], [.inl v79], x_setc g77 (x_ce h + 0) (x_so h + 0))
        generalize x_setc g77 (x_ce h + 0) (x_so h + 0) = h82 at V81 ⊢
        refine q_goto ?_
        refine xR.blk c67_80 ?_
        refine q_istore (Nat.le_of_ble_eq_true rfl) ?_
        show x_seq _ _ _ _ ([.inr (.inr (7, x0)), .inr (.inr (3, x1)), .inr (.inr (1, x2)), .inl x3, .inr (.inr (2, j14)), .inl v79], [], h82)
        refine q_iload rfl ?_
        refine v_if_ne (fun d83 => ?_) (fun d83 => ?_)
        · skip
          refine xR.blk c67_94 ?_
          refine q_aload rfl (by decide) ?_
          refine q_aload rfl (by decide) ?_
          refine q_aload rfl (by decide) ?_
          refine v_gfi V81 g2 (fun v84 => ?_)
          refine q_callv rfl (by decide) (V81.lv g0) (Nat.le_of_ble_eq_true rfl) (Nat.le_of_ble_eq_true rfl) (by rw [V81.2.2.1]; decide) (by rw [V81.2.2.2]; decide) ?_
          refine xC.up (tv66 (x0 := x0) (x1 := x2) (x2 := v84) V81.set g0 g2 (fun o86 g87 hp => ?_)) (by omega)
          obtain ⟨hg88, rfl⟩ := hp
          have V91 := VI.after (mc := 0) (ms := 0) V81 hg88
          show x_seq _ _ _ _ ([.inr (.inr (7, x0)), .inr (.inr (3, x1)), .inr (.inr (1, x2)), .inl x3, .inr (.inr (2, j14)), .inl v79], [], x_setc g87 (x_ce h82 + 0) (x_so h82 + 0))
          generalize x_setc g87 (x_ce h82 + 0) (x_so h82 + 0) = h92 at V91 ⊢
          refine q_aload rfl (by decide) ?_
          refine q_stage ?_
          refine v_pfr V91 (by decide) rfl g2 (by rw [V91.cnt (n := 6) (by decide)]; decide) rfl (fun h93 V94 => ?_)
          refine q_aload rfl (by decide) ?_
          refine q_aload rfl (by decide) ?_
          refine v_pfr V94 (by decide) rfl g2 f15.2 rfl (fun h95 V96 => ?_)
          refine q_aload rfl (by decide) ?_
          refine q_aload rfl (by decide) ?_
          refine v_pfr V96 (by decide) rfl f15 g2.2 rfl (fun h97 V98 => ?_)
          refine q_aload rfl (by decide) ?_
          refine v_gfrn V98 (by decide) rfl g2 (fun j99 f100 => ?_)
          refine v_iconst (k := 2) rfl (fun v101 e102 => ?_)
          refine v_pfi V98 rfl (fun lo hi hm => by simp only [x_rgl, List.mem_cons, Prod.mk.injEq, List.not_mem_nil, or_false] at hm; omega) rfl f100 (fun h103 V104 => ?_)
          exact q_ret (hZ _ _ ⟨⟨V104.1, V104.2.1⟩, rfl⟩)
        · skip
          refine q_aload rfl (by decide) ?_
          refine q_aload rfl (by decide) ?_
          refine v_iconst (k := 4) rfl (fun v105 e106 => ?_)
          refine q_callv rfl (by decide) (V81.lv g0) (Nat.le_of_ble_eq_true rfl) (Nat.le_of_ble_eq_true rfl) (by rw [V81.2.2.1]; decide) (by rw [V81.2.2.2]; decide) ?_
          refine xC.up (tv59 (x0 := x0) (x1 := x2) (x2 := v105) V81.set g0 g2 (fun o107 g108 hp => ?_)) (by omega)
          obtain ⟨hg109, rfl⟩ := hp
          have V112 := VI.after (mc := 0) (ms := 0) V81 hg109
          show x_seq _ _ _ _ ([.inr (.inr (7, x0)), .inr (.inr (3, x1)), .inr (.inr (1, x2)), .inl x3, .inr (.inr (2, j14)), .inl v79], [], x_setc g108 (x_ce h82 + 0) (x_so h82 + 0))
          generalize x_setc g108 (x_ce h82 + 0) (x_so h82 + 0) = h113 at V112 ⊢
          exact q_ret (hZ _ _ ⟨⟨V112.1, V112.2.1⟩, rfl⟩)
    · skip
      refine q_aload rfl (by decide) ?_
      refine q_aload rfl (by decide) ?_
      refine v_iconst (k := 3) rfl (fun v114 e115 => ?_)
      refine q_callv rfl (by decide) (V.lv g0) (Nat.le_of_ble_eq_true rfl) (Nat.le_of_ble_eq_true rfl) (by rw [V.2.2.1]; decide) (by rw [V.2.2.2]; decide) ?_
      refine xC.up (tv59 (x0 := x0) (x1 := x2) (x2 := v114) V.set g0 g2 (fun o116 g117 hp => ?_)) (by omega)
      obtain ⟨hg118, rfl⟩ := hp
      have V121 := VI.after (mc := 0) (ms := 0) V hg118
      show x_seq _ _ _ _ ([.inr (.inr (7, x0)), .inr (.inr (3, x1)), .inr (.inr (1, x2)), .inl x3, .inr (.inr (2, j14)), .inr (.inr (0, 0))], [], x_setc g117 (x_ce h + 0) (x_so h + 0))
      generalize x_setc g117 (x_ce h + 0) (x_so h + 0) = h122 at V121 ⊢
      exact q_ret (hZ _ _ ⟨⟨V121.1, V121.2.1⟩, rfl⟩)
  · skip
    refine q_aload rfl (by decide) ?_
    refine q_aload rfl (by decide) ?_
    refine v_iconst (k := 5) rfl (fun v123 e124 => ?_)
    refine q_callv rfl (by decide) (V.lv g0) (Nat.le_of_ble_eq_true rfl) (Nat.le_of_ble_eq_true rfl) (by rw [V.2.2.1]; decide) (by rw [V.2.2.2]; decide) ?_
    refine xC.up (tv59 (x0 := x0) (x1 := x2) (x2 := v123) V.set g0 g2 (fun o125 g126 hp => ?_)) (by omega)
    obtain ⟨hg127, rfl⟩ := hp
    have V130 := VI.after (mc := 0) (ms := 0) V hg127
    show x_seq _ _ _ _ ([.inr (.inr (7, x0)), .inr (.inr (3, x1)), .inr (.inr (1, x2)), .inl x3, .inr (.inr (0, 0)), .inr (.inr (0, 0))], [], x_setc g126 (x_ce h + 0) (x_so h + 0))
    generalize x_setc g126 (x_ce h + 0) (x_so h + 0) = h131 at V130 ⊢
    exact q_ret (hZ _ _ ⟨⟨V130.1, V130.2.1⟩, rfl⟩)
theorem tv68 {c : xP} {h : xH} {Z : xO → xH → Prop} {x0 : Nat} {x1 : Int32} {x2 : Int32} (V : VI c 0 0 h) (g0 : L c 7 x0) (hZ : ∀ (o : xO) (g : xH), g = h ∧ (∃ v : Int32, o = .inl (some (.inl v)) ∧ -1 ≤ v.toInt ∧ v.toInt ≤ 15) → Z o g) : xC 400 68 [.inr (.inr (7, x0)), .inl x1, .inl x2] h Z := by
  refine ⟨rfl, V.2.2.1, V.2.2.2, ?_⟩
  show xR _ 68 0 ([.inr (.inr (7, x0)), .inl x1, .inl x2, .inr (.inr (0, 0))], [], h) Z
  refine xR.blk c68_0 ?_
  refine v_iconst (k := 0) rfl (fun v1 e2 => ?_)
  refine q_istore (Nat.le_of_ble_eq_true rfl) ?_
  show x_seq _ _ _ _ ([.inr (.inr (7, x0)), .inl x1, .inl x2, .inl v1], [], h)
  refine q_goto ?_
  have lp4 : ∀ (m3 : Nat) (ylp4_3 : Int32), (0 ≤ ylp4_3.toInt ∧ ylp4_3.toInt ≤ 16) → (16 - ylp4_3.toInt).toNat < m3 → xR (40 + 12 * m3) 68 2 ([.inr (.inr (7, x0)), .inl x1, .inl x2, .inl ylp4_3], [], h) Z := by
    intro m3
    induction m3 with
    | zero => intro ylp4_3 klp4_3 kmlp4; exact absurd kmlp4 (by omega)
    | succ m3 ih5 =>
      intro ylp4_3 klp4_3 kmlp4
      rw [show 40 + 12 * (m3 + 1) = 40 + 12 * m3 + 12 by omega]
      refine xR.blk c68_2 ?_
      refine q_iload rfl ?_
      refine q_aload rfl (by decide) ?_
      refine q_gfi (V.lv g0) ?_
      have e8 : 0 ≤ (x_vi h 7 4 x0).toInt ∧ (x_vi h 7 4 x0).toInt ≤ 16 := V.rg (K := 7) (k := 4) (lo := 0) (hi := 16) (by decide) g0
      refine v_icmp_ge (fun d9 => ?_) (fun d9 => ?_)
      · skip
        refine xR.blk c68_56 ?_
        refine v_iconst (k := -1) rfl (fun v10 e11 => ?_)
        exact q_iret (hZ _ _ ⟨rfl, ⟨_, rfl, by omega⟩⟩)
      · skip
        refine q_aload rfl (by decide) ?_
        refine q_gfr (V.lv g0) ?_
        refine q_iload rfl ?_
        refine q_aald (V.lv (V.nn (K := 7) (k := 2) (by decide) g0)) (V.inn (L' := 16) (by decide) (V.nn (K := 7) (k := 2) (by decide) g0) (by omega) (by omega)) ?_
        have f13 : L c 6 (x_vr h 13 (x_vr h 7 2 x0) ylp4_3.toNatClampNeg) := V.of (V.1.2.2.2.2.2.2.2.1 x0 ylp4_3.toNatClampNeg (V.lv g0) (by have h9 := x_clamp (n := ylp4_3) (by omega); show (_ : Int) < (x_vi h 7 4 x0).toInt; omega))
        refine q_callv rfl (by decide) (V.lv f13) (Nat.le_of_ble_eq_true rfl) (Nat.le_of_ble_eq_true rfl) (by rw [V.2.2.1]; decide) (by rw [V.2.2.2]; decide) ?_
        refine xC.up (tv41 (x0 := (x_vr h 13 (x_vr h 7 2 x0) ylp4_3.toNatClampNeg)) V.set f13 (fun o14 g15 hp => ?_)) (by omega)
        obtain ⟨rfl, ⟨v17, rfl, f18⟩⟩ := hp
        show x_seq _ _ _ _ ([.inr (.inr (7, x0)), .inl x1, .inl x2, .inl ylp4_3], [.inl v17], h)
        refine v_if_eq (fun d19 => ?_) (fun d19 => ?_)
        · skip
          refine xR.blk c68_50 ?_
          refine v_iinc (k := 1) rfl rfl (by omega) (by have b9 := Int32.toInt_lt ylp4_3; omega) (fun v20 e21 => ?_)
          show x_seq _ _ _ _ ([.inr (.inr (7, x0)), .inl x1, .inl x2, .inl v20], [], h)
          refine q_goto ?_
          exact (ih5 v20  (by omega) (by omega)).up (by omega)
        · skip
          refine q_aload rfl (by decide) ?_
          refine q_gfr (V.lv g0) ?_
          refine q_iload rfl ?_
          refine q_aald (V.lv (V.nn (K := 7) (k := 2) (by decide) g0)) (V.inn (L' := 16) (by decide) (V.nn (K := 7) (k := 2) (by decide) g0) (by omega) (by omega)) ?_
          have f23 : L c 6 (x_vr h 13 (x_vr h 7 2 x0) ylp4_3.toNatClampNeg) := V.of (V.1.2.2.2.2.2.2.2.1 x0 ylp4_3.toNatClampNeg (V.lv g0) (by have h9 := x_clamp (n := ylp4_3) (by omega); show (_ : Int) < (x_vi h 7 4 x0).toInt; omega))
          refine q_iload rfl ?_
          refine q_callv rfl (by decide) (V.lv f23) (Nat.le_of_ble_eq_true rfl) (Nat.le_of_ble_eq_true rfl) (by rw [V.2.2.1]; decide) (by rw [V.2.2.2]; decide) ?_
          refine xC.up (tv42 (x0 := (x_vr h 13 (x_vr h 7 2 x0) ylp4_3.toNatClampNeg)) (x1 := x1) V.set f23 (fun o24 g25 hp => ?_)) (by omega)
          obtain ⟨rfl, ⟨v27, rfl, f28⟩⟩ := hp
          show x_seq _ _ _ _ ([.inr (.inr (7, x0)), .inl x1, .inl x2, .inl ylp4_3], [.inl v27], h)
          refine v_if_eq (fun d29 => ?_) (fun d29 => ?_)
          · skip
            refine xR.blk c68_50 ?_
            refine v_iinc (k := 1) rfl rfl (by omega) (by have b9 := Int32.toInt_lt ylp4_3; omega) (fun v30 e31 => ?_)
            show x_seq _ _ _ _ ([.inr (.inr (7, x0)), .inl x1, .inl x2, .inl v30], [], h)
            refine q_goto ?_
            exact (ih5 v30  (by omega) (by omega)).up (by omega)
          · skip
            refine q_aload rfl (by decide) ?_
            refine q_gfr (V.lv g0) ?_
            refine q_iload rfl ?_
            refine q_aald (V.lv (V.nn (K := 7) (k := 2) (by decide) g0)) (V.inn (L' := 16) (by decide) (V.nn (K := 7) (k := 2) (by decide) g0) (by omega) (by omega)) ?_
            have f33 : L c 6 (x_vr h 13 (x_vr h 7 2 x0) ylp4_3.toNatClampNeg) := V.of (V.1.2.2.2.2.2.2.2.1 x0 ylp4_3.toNatClampNeg (V.lv g0) (by have h9 := x_clamp (n := ylp4_3) (by omega); show (_ : Int) < (x_vi h 7 4 x0).toInt; omega))
            refine q_iload rfl ?_
            refine q_callv rfl (by decide) (V.lv f33) (Nat.le_of_ble_eq_true rfl) (Nat.le_of_ble_eq_true rfl) (by rw [V.2.2.1]; decide) (by rw [V.2.2.2]; decide) ?_
            refine xC.up (tv42 (x0 := (x_vr h 13 (x_vr h 7 2 x0) ylp4_3.toNatClampNeg)) (x1 := x2) V.set f33 (fun o34 g35 hp => ?_)) (by omega)
            obtain ⟨rfl, ⟨v37, rfl, f38⟩⟩ := hp
            show x_seq _ _ _ _ ([.inr (.inr (7, x0)), .inl x1, .inl x2, .inl ylp4_3], [.inl v37], h)
            refine v_if_eq (fun d39 => ?_) (fun d39 => ?_)
            · skip
              refine xR.blk c68_50 ?_
              refine v_iinc (k := 1) rfl rfl (by omega) (by have b9 := Int32.toInt_lt ylp4_3; omega) (fun v40 e41 => ?_)
              show x_seq _ _ _ _ ([.inr (.inr (7, x0)), .inl x1, .inl x2, .inl v40], [], h)
              refine q_goto ?_
              exact (ih5 v40  (by omega) (by omega)).up (by omega)
            · skip
              refine q_iload rfl ?_
              exact q_iret (hZ _ _ ⟨rfl, ⟨_, rfl, by omega⟩⟩)
  exact (lp4 17 v1  (by omega) (by omega)).up (by omega)
theorem tv69 {c : xP} {h : xH} {Z : xO → xH → Prop} {x0 : Nat} {x1 : Nat} {x2 : Nat} {x3 : Nat} (V : VI c 0 0 h) (g0 : L c 7 x0) (g1 : L c 3 x1) (g2 : L c 1 x2) (g3 : L c 3 x3) (hZ : ∀ (o : xO) (g : xH), (CI g ∧ x_pj g = c) ∧ (∃ v : Int32, o = .inl (some (.inl v)) ∧ 0 ≤ v.toInt ∧ v.toInt ≤ 1) → Z o g) : xC 2000 69 [.inr (.inr (7, x0)), .inr (.inr (3, x1)), .inr (.inr (1, x2)), .inr (.inr (3, x3))] h Z := by
  refine ⟨rfl, V.2.2.1, V.2.2.2, ?_⟩
  show xR _ 69 0 ([.inr (.inr (7, x0)), .inr (.inr (3, x1)), .inr (.inr (1, x2)), .inr (.inr (3, x3)), .inr (.inr (0, 0)), .inr (.inr (0, 0))], [], h) Z
  refine xR.blk c69_0 ?_
  refine q_aload rfl (by decide) ?_
  refine q_aload rfl (by decide) ?_
  refine v_gfir V (lo := 0) (hi := 2) (by decide) g1 (fun v1 e2 => ?_)
  refine q_aload rfl (by decide) ?_
  refine v_gfir V (lo := 0) (hi := 2) (by decide) g3 (fun v3 e4 => ?_)
  refine q_callv rfl (by decide) (V.lv g0) (Nat.le_of_ble_eq_true rfl) (Nat.le_of_ble_eq_true rfl) (by rw [V.2.2.1]; decide) (by rw [V.2.2.2]; decide) ?_
  refine xC.up (tv68 (x0 := x0) (x1 := v1) (x2 := v3) V.set g0 (fun o5 g6 hp => ?_)) (by omega)
  obtain ⟨rfl, ⟨v8, rfl, f9⟩⟩ := hp
  show x_seq _ _ _ _ ([.inr (.inr (7, x0)), .inr (.inr (3, x1)), .inr (.inr (1, x2)), .inr (.inr (3, x3)), .inr (.inr (0, 0)), .inr (.inr (0, 0))], [.inl v8], h)
  refine q_istore (Nat.le_of_ble_eq_true rfl) ?_
  show x_seq _ _ _ _ ([.inr (.inr (7, x0)), .inr (.inr (3, x1)), .inr (.inr (1, x2)), .inr (.inr (3, x3)), .inl v8, .inr (.inr (0, 0))], [], h)
  refine q_iload rfl ?_
  refine v_iconst (k := -1) rfl (fun v10 e11 => ?_)
  refine v_icmp_ne (fun d12 => ?_) (fun d12 => ?_)
  · skip
    refine xR.blk c69_40 ?_
    refine q_aload rfl (by decide) ?_
    refine v_iconst (k := 30) rfl (fun v13 e14 => ?_)
    refine v_iconst (k := 33) rfl (fun v15 e16 => ?_)
    refine q_callv rfl (by decide) (V.lv g3) (Nat.le_of_ble_eq_true rfl) (Nat.le_of_ble_eq_true rfl) (by rw [V.2.2.1]; decide) (by rw [V.2.2.2]; decide) ?_
    refine xC.up (tv29 (x0 := x3) (x1 := v13) (x2 := v15) V.set g3 (by omega) (by omega) (fun o17 g18 hp => ?_)) (by omega)
    obtain ⟨rfl, ⟨v20, rfl, f21⟩⟩ := hp
    show x_seq _ _ _ _ ([.inr (.inr (7, x0)), .inr (.inr (3, x1)), .inr (.inr (1, x2)), .inr (.inr (3, x3)), .inl v8, .inr (.inr (0, 0))], [.inl v20], h)
    refine q_istore (Nat.le_of_ble_eq_true rfl) ?_
    show x_seq _ _ _ _ ([.inr (.inr (7, x0)), .inr (.inr (3, x1)), .inr (.inr (1, x2)), .inr (.inr (3, x3)), .inl v8, .inl v20], [], h)
    refine q_iload rfl ?_
    refine v_iconst (k := -1) rfl (fun v22 e23 => ?_)
    refine v_icmp_ne (fun d24 => ?_) (fun d24 => ?_)
    · skip
      refine xR.blk c69_58 ?_
      refine q_aload rfl (by decide) ?_
      refine v_gfrn V (by decide) rfl g2 (fun j25 f26 => ?_)
      refine v_gfir V (lo := 0) (hi := 2) (by decide) f26 (fun v27 e28 => ?_)
      refine q_aload rfl (by decide) ?_
      refine v_gfir V (lo := 0) (hi := 2) (by decide) g1 (fun v29 e30 => ?_)
      refine v_icmp_ne (fun d31 => ?_) (fun d31 => ?_)
      · skip
        refine xR.blk c69_93 ?_
        refine q_aload rfl (by decide) ?_
        refine q_aload rfl (by decide) ?_
        refine v_iconst (k := 5000) rfl (fun v32 e33 => ?_)
        refine q_iload rfl ?_
        refine v_bin (fun v34 => ?_)
        refine q_callv rfl (by decide) (V.lv g0) (Nat.le_of_ble_eq_true rfl) (Nat.le_of_ble_eq_true rfl) (by rw [V.2.2.1]; decide) (by rw [V.2.2.2]; decide) ?_
        refine xC.up (tv53 (x0 := x0) (x1 := x2) (x2 := v34) V.set g0 g2 (fun o36 g37 hp => ?_)) (by omega)
        obtain ⟨hg38, rfl⟩ := hp
        have V41 := VI.after (mc := 0) (ms := 0) V hg38
        show x_seq _ _ _ _ ([.inr (.inr (7, x0)), .inr (.inr (3, x1)), .inr (.inr (1, x2)), .inr (.inr (3, x3)), .inl v8, .inl v20], [], x_setc g37 (x_ce h + 0) (x_so h + 0))
        generalize x_setc g37 (x_ce h + 0) (x_so h + 0) = h42 at V41 ⊢
        refine q_aload rfl (by decide) ?_
        refine q_aload rfl (by decide) ?_
        refine q_iload rfl ?_
        refine q_callv rfl (by decide) (V41.lv g3) (Nat.le_of_ble_eq_true rfl) (Nat.le_of_ble_eq_true rfl) (by rw [V41.2.2.1]; decide) (by rw [V41.2.2.2]; decide) ?_
        refine xC.up (tv14 (x0 := x3) (x1 := v20) V41.set g3 (fun o43 g44 hp => ?_)) (by omega)
        obtain ⟨rfl, ⟨v46, rfl⟩⟩ := hp
        show x_seq _ _ _ _ ([.inr (.inr (7, x0)), .inr (.inr (3, x1)), .inr (.inr (1, x2)), .inr (.inr (3, x3)), .inl v8, .inl v20], [.inl v46, .inr (.inr (1, x2))], h42)
        refine v_pfi V41 rfl (fun lo hi hm => by simp only [x_rgl, List.mem_cons, Prod.mk.injEq, List.not_mem_nil, or_false] at hm; omega) rfl g2 (fun h48 V49 => ?_)
        refine q_aload rfl (by decide) ?_
        refine q_aload rfl (by decide) ?_
        refine q_aload rfl (by decide) ?_
        refine v_gfi V49 g2 (fun v50 => ?_)
        refine q_callv rfl (by decide) (V49.lv g0) (Nat.le_of_ble_eq_true rfl) (Nat.le_of_ble_eq_true rfl) (by rw [V49.2.2.1]; decide) (by rw [V49.2.2.2]; decide) ?_
        refine xC.up (tv53 (x0 := x0) (x1 := x2) (x2 := v50) V49.set g0 g2 (fun o52 g53 hp => ?_)) (by omega)
        obtain ⟨hg54, rfl⟩ := hp
        have V57 := VI.after (mc := 0) (ms := 0) V49 hg54
        show x_seq _ _ _ _ ([.inr (.inr (7, x0)), .inr (.inr (3, x1)), .inr (.inr (1, x2)), .inr (.inr (3, x3)), .inl v8, .inl v20], [], x_setc g53 (x_ce h48 + 0) (x_so h48 + 0))
        generalize x_setc g53 (x_ce h48 + 0) (x_so h48 + 0) = h58 at V57 ⊢
        refine q_aload rfl (by decide) ?_
        refine q_aload rfl (by decide) ?_
        refine v_gfir V57 (lo := 0) (hi := 2) (by decide) g3 (fun v59 e60 => ?_)
        refine q_callv rfl (by decide) (V57.lv g2) (Nat.le_of_ble_eq_true rfl) (Nat.le_of_ble_eq_true rfl) (by rw [V57.2.2.1]; decide) (by rw [V57.2.2.2]; decide) ?_
        refine xC.up (tv2 (x0 := x2) (x1 := v59) V57.set g2 (by omega) (fun o61 g62 hp => ?_)) (by omega)
        obtain ⟨hg63, rfl⟩ := hp
        have V66 := VI.after (mc := 0) (ms := 0) V57 hg63
        show x_seq _ _ _ _ ([.inr (.inr (7, x0)), .inr (.inr (3, x1)), .inr (.inr (1, x2)), .inr (.inr (3, x3)), .inl v8, .inl v20], [], x_setc g62 (x_ce h58 + 0) (x_so h58 + 0))
        generalize x_setc g62 (x_ce h58 + 0) (x_so h58 + 0) = h67 at V66 ⊢
        refine v_iconst (k := 1) rfl (fun v68 e69 => ?_)
        exact q_zret (i32_01 (by omega)) (hZ _ _ ⟨⟨V66.1, V66.2.1⟩, ⟨_, rfl, by omega⟩⟩)
      · skip
        refine q_aload rfl (by decide) ?_
        refine q_aload rfl (by decide) ?_
        refine q_aload rfl (by decide) ?_
        refine q_aload rfl (by decide) ?_
        refine q_aload rfl (by decide) ?_
        refine v_gfrn V (by decide) rfl g2 (fun j70 f71 => ?_)
        refine v_iconst (k := 0) rfl (fun v72 e73 => ?_)
        refine v_iconst (k := -1) rfl (fun v74 e75 => ?_)
        refine q_callv rfl (by decide) (V.lv g1) (Nat.le_of_ble_eq_true rfl) (Nat.le_of_ble_eq_true rfl) (by rw [V.2.2.1]; decide) (by rw [V.2.2.2]; decide) ?_
        refine xC.up (tv31 (x0 := x1) (x1 := j70) (x2 := v72) (x3 := v74) V.set g1 f71 (by omega) (fun o76 g77 hp => ?_)) (by omega)
        obtain ⟨rfl, ⟨v79, rfl, f80⟩⟩ := hp
        show x_seq _ _ _ _ ([.inr (.inr (7, x0)), .inr (.inr (3, x1)), .inr (.inr (1, x2)), .inr (.inr (3, x3)), .inl v8, .inl v20], [.inl v79, .inr (.inr (1, x2)), .inr (.inr (3, x1)), .inr (.inr (7, x0))], h)
        refine q_callv rfl (by decide) (V.lv g0) (Nat.le_of_ble_eq_true rfl) (Nat.le_of_ble_eq_true rfl) (by rw [V.2.2.1]; decide) (by rw [V.2.2.2]; decide) ?_
        refine xC.up (tv64 (x0 := x0) (x1 := x1) (x2 := x2) (x3 := v79) V.set g0 g1 g2 (by omega) (fun o81 g82 hp => ?_)) (by omega)
        obtain ⟨hg83, ⟨v84, rfl, f85⟩⟩ := hp
        have V86 := VI.after (mc := 0) (ms := 0) V hg83
        show x_seq _ _ _ _ ([.inr (.inr (7, x0)), .inr (.inr (3, x1)), .inr (.inr (1, x2)), .inr (.inr (3, x3)), .inl v8, .inl v20], [.inl v84], x_setc g82 (x_ce h + 0) (x_so h + 0))
        generalize x_setc g82 (x_ce h + 0) (x_so h + 0) = h87 at V86 ⊢
        refine v_if_ne (fun d88 => ?_) (fun d88 => ?_)
        · skip
          refine xR.blk c69_93 ?_
          refine q_aload rfl (by decide) ?_
          refine q_aload rfl (by decide) ?_
          refine v_iconst (k := 5000) rfl (fun v89 e90 => ?_)
          refine q_iload rfl ?_
          refine v_bin (fun v91 => ?_)
          refine q_callv rfl (by decide) (V86.lv g0) (Nat.le_of_ble_eq_true rfl) (Nat.le_of_ble_eq_true rfl) (by rw [V86.2.2.1]; decide) (by rw [V86.2.2.2]; decide) ?_
          refine xC.up (tv53 (x0 := x0) (x1 := x2) (x2 := v91) V86.set g0 g2 (fun o93 g94 hp => ?_)) (by omega)
          obtain ⟨hg95, rfl⟩ := hp
          have V98 := VI.after (mc := 0) (ms := 0) V86 hg95
          show x_seq _ _ _ _ ([.inr (.inr (7, x0)), .inr (.inr (3, x1)), .inr (.inr (1, x2)), .inr (.inr (3, x3)), .inl v8, .inl v20], [], x_setc g94 (x_ce h87 + 0) (x_so h87 + 0))
          generalize x_setc g94 (x_ce h87 + 0) (x_so h87 + 0) = h99 at V98 ⊢
          refine q_aload rfl (by decide) ?_
          refine q_aload rfl (by decide) ?_
          refine q_iload rfl ?_
          refine q_callv rfl (by decide) (V98.lv g3) (Nat.le_of_ble_eq_true rfl) (Nat.le_of_ble_eq_true rfl) (by rw [V98.2.2.1]; decide) (by rw [V98.2.2.2]; decide) ?_
          refine xC.up (tv14 (x0 := x3) (x1 := v20) V98.set g3 (fun o100 g101 hp => ?_)) (by omega)
          obtain ⟨rfl, ⟨v103, rfl⟩⟩ := hp
          show x_seq _ _ _ _ ([.inr (.inr (7, x0)), .inr (.inr (3, x1)), .inr (.inr (1, x2)), .inr (.inr (3, x3)), .inl v8, .inl v20], [.inl v103, .inr (.inr (1, x2))], h99)
          refine v_pfi V98 rfl (fun lo hi hm => by simp only [x_rgl, List.mem_cons, Prod.mk.injEq, List.not_mem_nil, or_false] at hm; omega) rfl g2 (fun h105 V106 => ?_)
          refine q_aload rfl (by decide) ?_
          refine q_aload rfl (by decide) ?_
          refine q_aload rfl (by decide) ?_
          refine v_gfi V106 g2 (fun v107 => ?_)
          refine q_callv rfl (by decide) (V106.lv g0) (Nat.le_of_ble_eq_true rfl) (Nat.le_of_ble_eq_true rfl) (by rw [V106.2.2.1]; decide) (by rw [V106.2.2.2]; decide) ?_
          refine xC.up (tv53 (x0 := x0) (x1 := x2) (x2 := v107) V106.set g0 g2 (fun o109 g110 hp => ?_)) (by omega)
          obtain ⟨hg111, rfl⟩ := hp
          have V114 := VI.after (mc := 0) (ms := 0) V106 hg111
          show x_seq _ _ _ _ ([.inr (.inr (7, x0)), .inr (.inr (3, x1)), .inr (.inr (1, x2)), .inr (.inr (3, x3)), .inl v8, .inl v20], [], x_setc g110 (x_ce h105 + 0) (x_so h105 + 0))
          generalize x_setc g110 (x_ce h105 + 0) (x_so h105 + 0) = h115 at V114 ⊢
          refine q_aload rfl (by decide) ?_
          refine q_aload rfl (by decide) ?_
          refine v_gfir V114 (lo := 0) (hi := 2) (by decide) g3 (fun v116 e117 => ?_)
          refine q_callv rfl (by decide) (V114.lv g2) (Nat.le_of_ble_eq_true rfl) (Nat.le_of_ble_eq_true rfl) (by rw [V114.2.2.1]; decide) (by rw [V114.2.2.2]; decide) ?_
          refine xC.up (tv2 (x0 := x2) (x1 := v116) V114.set g2 (by omega) (fun o118 g119 hp => ?_)) (by omega)
          obtain ⟨hg120, rfl⟩ := hp
          have V123 := VI.after (mc := 0) (ms := 0) V114 hg120
          show x_seq _ _ _ _ ([.inr (.inr (7, x0)), .inr (.inr (3, x1)), .inr (.inr (1, x2)), .inr (.inr (3, x3)), .inl v8, .inl v20], [], x_setc g119 (x_ce h115 + 0) (x_so h115 + 0))
          generalize x_setc g119 (x_ce h115 + 0) (x_so h115 + 0) = h124 at V123 ⊢
          refine v_iconst (k := 1) rfl (fun v125 e126 => ?_)
          exact q_zret (i32_01 (by omega)) (hZ _ _ ⟨⟨V123.1, V123.2.1⟩, ⟨_, rfl, by omega⟩⟩)
        · skip
          refine v_iconst (k := 0) rfl (fun v127 e128 => ?_)
          exact q_zret (i32_01 (by omega)) (hZ _ _ ⟨⟨V86.1, V86.2.1⟩, ⟨_, rfl, by omega⟩⟩)
    · skip
      refine v_iconst (k := 0) rfl (fun v129 e130 => ?_)
      exact q_zret (i32_01 (by omega)) (hZ _ _ ⟨⟨V.1, V.2.1⟩, ⟨_, rfl, by omega⟩⟩)
  · skip
    refine q_aload rfl (by decide) ?_
    refine v_gfrn V (by decide) rfl g0 (fun j131 f132 => ?_)
    refine q_aload rfl (by decide) ?_
    refine v_gfir V (lo := 0) (hi := 2) (by decide) g1 (fun v133 e134 => ?_)
    refine v_aaldn V (L' := 3) (by decide) (by decide) rfl f132 (by omega) (by omega) (fun j135 f136 => ?_)
    refine q_aload rfl (by decide) ?_
    refine v_gfir V (lo := 0) (hi := 2) (by decide) g3 (fun v137 e138 => ?_)
    refine q_dup2 rfl rfl ?_
    refine v_ald V (L' := 3) (by decide) f136 (by omega) (by omega) (fun v139 => ?_)
    refine v_iconst (k := 1) rfl (fun v140 e141 => ?_)
    refine v_bin (fun v142 => ?_)
    refine v_ast V (L' := 3) (by decide) rfl (by simp [x_rgl]) f136 (by omega) (by omega) (fun h144 V145 => ?_)
    refine v_iconst (k := 0) rfl (fun v146 e147 => ?_)
    exact q_zret (i32_01 (by omega)) (hZ _ _ ⟨⟨V145.1, V145.2.1⟩, ⟨_, rfl, by omega⟩⟩)
theorem tv70 {c : xP} {h : xH} {Z : xO → xH → Prop} {x0 : Nat} {x1 : Nat} {x2 : Nat} {x3 : Nat} (V : VI c 0 0 h) (g0 : L c 7 x0) (g1 : L c 3 x1) (g2 : L c 1 x2) (g3 : L c 4 x3) (hZ : ∀ (o : xO) (g : xH), (CI g ∧ x_pj g = c) ∧ (o = .inl none) → Z o g) : xC 20000005000 70 [.inr (.inr (7, x0)), .inr (.inr (3, x1)), .inr (.inr (1, x2)), .inr (.inr (4, x3))] h Z := by
  refine ⟨rfl, V.2.2.1, V.2.2.2, ?_⟩
  show xR _ 70 0 ([.inr (.inr (7, x0)), .inr (.inr (3, x1)), .inr (.inr (1, x2)), .inr (.inr (4, x3)), .inr (.inr (0, 0)), .inr (.inr (0, 0))], [], h) Z
  refine xR.blk c70_0 ?_
  refine v_iconst (k := 0) rfl (fun v1 e2 => ?_)
  refine q_istore (Nat.le_of_ble_eq_true rfl) ?_
  show x_seq _ _ _ _ ([.inr (.inr (7, x0)), .inr (.inr (3, x1)), .inr (.inr (1, x2)), .inr (.inr (4, x3)), .inl v1, .inr (.inr (0, 0))], [], h)
  refine q_goto ?_
  have lp4 : ∀ (m3 : Nat) (ylp4_4 : Int32) (zlp4_5 : xV) (h6 : xH), VI c 0 0 h6 → (0 ≤ ylp4_4.toInt ∧ ylp4_4.toInt ≤ 24) → (24 - ylp4_4.toInt).toNat < m3 → xR (20000003000 + 30 * m3) 70 3 ([.inr (.inr (7, x0)), .inr (.inr (3, x1)), .inr (.inr (1, x2)), .inr (.inr (4, x3)), .inl ylp4_4, zlp4_5], [], h6) Z := by
    intro m3
    induction m3 with
    | zero => intro ylp4_4 zlp4_5 h6 V7 klp4_4 kmlp4; exact absurd kmlp4 (by omega)
    | succ m3 ih5 =>
      intro ylp4_4 zlp4_5 h6 V7 klp4_4 kmlp4
      rw [show 20000003000 + 30 * (m3 + 1) = 20000003000 + 30 * m3 + 30 by omega]
      refine xR.blk c70_3 ?_
      refine q_iload rfl ?_
      refine q_aload rfl (by decide) ?_
      refine v_gfrn V7 (by decide) rfl g3 (fun j8 f9 => ?_)
      refine q_callv rfl (by decide) (V7.lv f9) (Nat.le_of_ble_eq_true rfl) (Nat.le_of_ble_eq_true rfl) (by rw [V7.2.2.1]; decide) (by rw [V7.2.2.2]; decide) ?_
      refine xC.up (tv24 (x0 := j8) V7.set f9 (fun o10 g11 hp => ?_)) (by omega)
      obtain ⟨rfl, ⟨v13, rfl, f14⟩⟩ := hp
      show x_seq _ _ _ _ ([.inr (.inr (7, x0)), .inr (.inr (3, x1)), .inr (.inr (1, x2)), .inr (.inr (4, x3)), .inl ylp4_4, zlp4_5], [.inl v13, .inl ylp4_4], h6)
      refine v_icmp_ge (fun d15 => ?_) (fun d15 => ?_)
      · skip
        refine xR.blk c70_84 ?_
        refine q_aload rfl (by decide) ?_
        refine q_aload rfl (by decide) ?_
        refine v_iconst (k := 4) rfl (fun v16 e17 => ?_)
        refine q_callv rfl (by decide) (V7.lv g0) (Nat.le_of_ble_eq_true rfl) (Nat.le_of_ble_eq_true rfl) (by rw [V7.2.2.1]; decide) (by rw [V7.2.2.2]; decide) ?_
        refine xC.up (tv59 (x0 := x0) (x1 := x2) (x2 := v16) V7.set g0 g2 (fun o18 g19 hp => ?_)) (by omega)
        obtain ⟨hg20, rfl⟩ := hp
        have V23 := VI.after (mc := 0) (ms := 0) V7 hg20
        show x_seq _ _ _ _ ([.inr (.inr (7, x0)), .inr (.inr (3, x1)), .inr (.inr (1, x2)), .inr (.inr (4, x3)), .inl ylp4_4, zlp4_5], [], x_setc g19 (x_ce h6 + 0) (x_so h6 + 0))
        generalize x_setc g19 (x_ce h6 + 0) (x_so h6 + 0) = h24 at V23 ⊢
        exact q_ret (hZ _ _ ⟨⟨V23.1, V23.2.1⟩, rfl⟩)
      · skip
        refine q_aload rfl (by decide) ?_
        refine v_gfrn V7 (by decide) rfl g3 (fun j25 f26 => ?_)
        refine q_iload rfl ?_
        refine q_callv rfl (by decide) (V7.lv f26) (Nat.le_of_ble_eq_true rfl) (Nat.le_of_ble_eq_true rfl) (by rw [V7.2.2.1]; decide) (by rw [V7.2.2.2]; decide) ?_
        refine xC.up (tv23 (x0 := j25) (x1 := ylp4_4) V7.set f26 (fun o27 g28 hp => ?_)) (by omega)
        obtain ⟨rfl, ⟨v30, rfl⟩⟩ := hp
        show x_seq _ _ _ _ ([.inr (.inr (7, x0)), .inr (.inr (3, x1)), .inr (.inr (1, x2)), .inr (.inr (4, x3)), .inl ylp4_4, zlp4_5], [.inl v30], h6)
        refine q_istore (Nat.le_of_ble_eq_true rfl) ?_
        show x_seq _ _ _ _ ([.inr (.inr (7, x0)), .inr (.inr (3, x1)), .inr (.inr (1, x2)), .inr (.inr (4, x3)), .inl ylp4_4, .inl v30], [], h6)
        refine q_iload rfl ?_
        refine q_call (Nat.le_of_ble_eq_true rfl) (Nat.le_of_ble_eq_true rfl) (by rw [V7.2.2.1]; decide) (by rw [V7.2.2.2]; decide) ?_
        refine xC.up (tv44 (x0 := v30) V7.set  (fun o32 g33 hp => ?_)) (by omega)
        obtain ⟨rfl, ⟨v35, rfl, f36⟩⟩ := hp
        show x_seq _ _ _ _ ([.inr (.inr (7, x0)), .inr (.inr (3, x1)), .inr (.inr (1, x2)), .inr (.inr (4, x3)), .inl ylp4_4, .inl v30], [.inl v35], h6)
        refine v_if_eq (fun d37 => ?_) (fun d37 => ?_)
        · skip
          refine xR.blk c70_78 ?_
          refine v_iinc (k := 1) rfl rfl (by omega) (by have b9 := Int32.toInt_lt ylp4_4; omega) (fun v38 e39 => ?_)
          show x_seq _ _ _ _ ([.inr (.inr (7, x0)), .inr (.inr (3, x1)), .inr (.inr (1, x2)), .inr (.inr (4, x3)), .inl v38, .inl v30], [], h6)
          refine q_goto ?_
          exact (ih5 v38 (.inl v30) _ V7 (by omega) (by omega)).up (by omega)
        · skip
          refine q_aload rfl (by decide) ?_
          refine q_iload rfl ?_
          refine q_callv rfl (by decide) (V7.lv g2) (Nat.le_of_ble_eq_true rfl) (Nat.le_of_ble_eq_true rfl) (by rw [V7.2.2.1]; decide) (by rw [V7.2.2.2]; decide) ?_
          refine xC.up (tv4 (x0 := x2) (x1 := v30) V7.set g2 (fun o40 g41 hp => ?_)) (by omega)
          obtain ⟨rfl, ⟨v43, rfl, f44⟩⟩ := hp
          show x_seq _ _ _ _ ([.inr (.inr (7, x0)), .inr (.inr (3, x1)), .inr (.inr (1, x2)), .inr (.inr (4, x3)), .inl ylp4_4, .inl v30], [.inl v43], h6)
          refine v_if_ne (fun d45 => ?_) (fun d45 => ?_)
          · skip
            refine xR.blk c70_78 ?_
            refine v_iinc (k := 1) rfl rfl (by omega) (by have b9 := Int32.toInt_lt ylp4_4; omega) (fun v46 e47 => ?_)
            show x_seq _ _ _ _ ([.inr (.inr (7, x0)), .inr (.inr (3, x1)), .inr (.inr (1, x2)), .inr (.inr (4, x3)), .inl v46, .inl v30], [], h6)
            refine q_goto ?_
            exact (ih5 v46 (.inl v30) _ V7 (by omega) (by omega)).up (by omega)
          · skip
            refine q_aload rfl (by decide) ?_
            refine q_aload rfl (by decide) ?_
            refine q_aload rfl (by decide) ?_
            refine q_aload rfl (by decide) ?_
            refine v_gfrn V7 (by decide) rfl g0 (fun j48 f49 => ?_)
            refine q_iload rfl ?_
            refine v_aaldn V7 (L' := 3) (by decide) (by decide) rfl f49 (by omega) (by omega) (fun j50 f51 => ?_)
            refine q_callv rfl (by decide) (V7.lv g0) (Nat.le_of_ble_eq_true rfl) (Nat.le_of_ble_eq_true rfl) (by rw [V7.2.2.1]; decide) (by rw [V7.2.2.2]; decide) ?_
            refine xC.up (tv69 (x0 := x0) (x1 := x1) (x2 := x2) (x3 := j50) V7.set g0 g1 g2 f51 (fun o52 g53 hp => ?_)) (by omega)
            obtain ⟨hg54, ⟨v55, rfl, f56⟩⟩ := hp
            have V57 := VI.after (mc := 0) (ms := 0) V7 hg54
            show x_seq _ _ _ _ ([.inr (.inr (7, x0)), .inr (.inr (3, x1)), .inr (.inr (1, x2)), .inr (.inr (4, x3)), .inl ylp4_4, .inl v30], [.inl v55], x_setc g53 (x_ce h6 + 0) (x_so h6 + 0))
            generalize x_setc g53 (x_ce h6 + 0) (x_so h6 + 0) = h58 at V57 ⊢
            refine v_if_eq (fun d59 => ?_) (fun d59 => ?_)
            · skip
              refine xR.blk c70_78 ?_
              refine v_iinc (k := 1) rfl rfl (by omega) (by have b9 := Int32.toInt_lt ylp4_4; omega) (fun v60 e61 => ?_)
              show x_seq _ _ _ _ ([.inr (.inr (7, x0)), .inr (.inr (3, x1)), .inr (.inr (1, x2)), .inr (.inr (4, x3)), .inl v60, .inl v30], [], h58)
              refine q_goto ?_
              exact (ih5 v60 (.inl v30) _ V57 (by omega) (by omega)).up (by omega)
            · skip
              refine q_aload rfl (by decide) ?_
              refine q_aload rfl (by decide) ?_
              refine v_gfi V57 g2 (fun v62 => ?_)
              refine q_call (Nat.le_of_ble_eq_true rfl) (Nat.le_of_ble_eq_true rfl) (by rw [V57.2.2.1]; decide) (by rw [V57.2.2.2]; decide) ?_
              refine xC.up (tv34 (x0 := v62) V57.set  (fun o64 g65 hp => ?_)) (by omega)
              obtain ⟨rfl, ⟨v67, rfl⟩⟩ := hp
              show x_seq _ _ _ _ ([.inr (.inr (7, x0)), .inr (.inr (3, x1)), .inr (.inr (1, x2)), .inr (.inr (4, x3)), .inl ylp4_4, .inl v30], [.inl v67, .inr (.inr (1, x2))], h58)
              refine v_pfi V57 rfl (fun lo hi hm => by simp only [x_rgl, List.mem_cons, Prod.mk.injEq, List.not_mem_nil, or_false] at hm; omega) rfl g2 (fun h69 V70 => ?_)
              refine q_aload rfl (by decide) ?_
              refine q_stage ?_
              refine v_pfr V70 (by decide) rfl g2 (by rw [V70.cnt (n := 6) (by decide)]; decide) rfl (fun h71 V72 => ?_)
              exact q_ret (hZ _ _ ⟨⟨V72.1, V72.2.1⟩, rfl⟩)
  exact (lp4 25 v1 (.inr (.inr (0, 0))) _ V (by omega) (by omega)).up (by omega)
theorem tv71 {c : xP} {h : xH} {Z : xO → xH → Prop} {x0 : Nat} {x1 : Nat} (V : VI c 0 0 h) (g0 : L c 7 x0) (g1 : L c 3 x1) (hZ : ∀ (o : xO) (g : xH), (CI g ∧ x_pj g = c) ∧ (o = .inl none) → Z o g) : xC 20000007000 71 [.inr (.inr (7, x0)), .inr (.inr (3, x1))] h Z := by
  refine ⟨rfl, V.2.2.1, V.2.2.2, ?_⟩
  show xR _ 71 0 ([.inr (.inr (7, x0)), .inr (.inr (3, x1)), .inr (.inr (0, 0)), .inr (.inr (0, 0)), .inr (.inr (0, 0))], [], h) Z
  refine xR.blk c71_0 ?_
  refine q_aload rfl (by decide) ?_
  refine v_gfrn V (by decide) rfl g1 (fun j1 f2 => ?_)
  refine v_iconst (k := 0) rfl (fun v3 e4 => ?_)
  refine q_callv rfl (by decide) (V.lv f2) (Nat.le_of_ble_eq_true rfl) (Nat.le_of_ble_eq_true rfl) (by rw [V.2.2.1]; decide) (by rw [V.2.2.2]; decide) ?_
  refine xC.up (tv23 (x0 := j1) (x1 := v3) V.set f2 (fun o5 g6 hp => ?_)) (by omega)
  obtain ⟨rfl, ⟨v8, rfl⟩⟩ := hp
  show x_seq _ _ _ _ ([.inr (.inr (7, x0)), .inr (.inr (3, x1)), .inr (.inr (0, 0)), .inr (.inr (0, 0)), .inr (.inr (0, 0))], [.inl v8], h)
  refine q_istore (Nat.le_of_ble_eq_true rfl) ?_
  show x_seq _ _ _ _ ([.inr (.inr (7, x0)), .inr (.inr (3, x1)), .inl v8, .inr (.inr (0, 0)), .inr (.inr (0, 0))], [], h)
  refine q_iload rfl ?_
  refine v_if_lt (fun d10 => ?_) (fun d10 => ?_)
  · skip
    refine xR.blk c71_22 ?_
    exact q_ret (hZ _ _ ⟨⟨V.1, V.2.1⟩, rfl⟩)
  · skip
    refine q_iload rfl ?_
    refine q_aload rfl (by decide) ?_
    refine v_gfrn V (by decide) rfl g0 (fun j11 f12 => ?_)
    refine q_alen (V.lv f12) ?_
    have e14 : (Int32.ofNat (x_ln h 12 j11)).toInt = 72 := by rw [V.ln (L' := 72) (by decide) f12]; rfl
    generalize Int32.ofNat (x_ln h 12 j11) = v13 at e14 ⊢
    refine v_icmp_lt (fun d15 => ?_) (fun d15 => ?_)
    · skip
      refine xR.blk c71_23 ?_
      refine q_aload rfl (by decide) ?_
      refine v_gfrn V (by decide) rfl g1 (fun j16 f17 => ?_)
      refine q_iload rfl ?_
      refine q_callv rfl (by decide) (V.lv f17) (Nat.le_of_ble_eq_true rfl) (Nat.le_of_ble_eq_true rfl) (by rw [V.2.2.1]; decide) (by rw [V.2.2.2]; decide) ?_
      refine xC.up (tv38 (x0 := j16) (x1 := v8) V.set f17 (fun o18 g19 hp => ?_)) (by omega)
      obtain ⟨hg20, rfl⟩ := hp
      have V23 := VI.after (mc := 0) (ms := 0) V hg20
      show x_seq _ _ _ _ ([.inr (.inr (7, x0)), .inr (.inr (3, x1)), .inl v8, .inr (.inr (0, 0)), .inr (.inr (0, 0))], [], x_setc g19 (x_ce h + 0) (x_so h + 0))
      generalize x_setc g19 (x_ce h + 0) (x_so h + 0) = h24 at V23 ⊢
      refine q_aload rfl (by decide) ?_
      refine v_gfrn V23 (by decide) rfl g0 (fun j25 f26 => ?_)
      refine q_iload rfl ?_
      refine v_aaldn V23 (L' := 72) (by decide) (by decide) rfl f26 (by omega) (by omega) (fun j27 f28 => ?_)
      refine q_astore (Nat.le_of_ble_eq_true rfl) ?_
      show x_seq _ _ _ _ ([.inr (.inr (7, x0)), .inr (.inr (3, x1)), .inl v8, .inr (.inr (1, j27)), .inr (.inr (0, 0))], [], h24)
      refine q_aload rfl (by decide) ?_
      refine q_aload rfl (by decide) ?_
      refine v_gfi V23 f28 (fun v29 => ?_)
      refine q_callv rfl (by decide) (V23.lv g1) (Nat.le_of_ble_eq_true rfl) (Nat.le_of_ble_eq_true rfl) (by rw [V23.2.2.1]; decide) (by rw [V23.2.2.2]; decide) ?_
      refine xC.up (tv17 (x0 := x1) (x1 := v29) V23.set g1 (fun o31 g32 hp => ?_)) (by omega)
      obtain ⟨rfl, ⟨j34, rfl, f35⟩⟩ := hp
      show x_seq _ _ _ _ ([.inr (.inr (7, x0)), .inr (.inr (3, x1)), .inl v8, .inr (.inr (1, j27)), .inr (.inr (0, 0))], [.inr (.inr (4, j34))], h24)
      refine q_astore (Nat.le_of_ble_eq_true rfl) ?_
      show x_seq _ _ _ _ ([.inr (.inr (7, x0)), .inr (.inr (3, x1)), .inl v8, .inr (.inr (1, j27)), .inr (.inr (4, j34))], [], h24)
      refine q_aload rfl (by decide) ?_
      refine q_ifnull (fun d36 => ?_) (fun d36 => ?_)
      · skip
        refine xR.blk c71_66 ?_
        refine q_aload rfl (by decide) ?_
        refine q_aload rfl (by decide) ?_
        refine v_iconst (k := 5) rfl (fun v37 e38 => ?_)
        refine q_callv rfl (by decide) (V23.lv g0) (Nat.le_of_ble_eq_true rfl) (Nat.le_of_ble_eq_true rfl) (by rw [V23.2.2.1]; decide) (by rw [V23.2.2.2]; decide) ?_
        refine xC.up (tv59 (x0 := x0) (x1 := j27) (x2 := v37) V23.set g0 f28 (fun o39 g40 hp => ?_)) (by omega)
        obtain ⟨hg41, rfl⟩ := hp
        have V44 := VI.after (mc := 0) (ms := 0) V23 hg41
        show x_seq _ _ _ _ ([.inr (.inr (7, x0)), .inr (.inr (3, x1)), .inl v8, .inr (.inr (1, j27)), .inr (.inr (4, j34))], [], x_setc g40 (x_ce h24 + 0) (x_so h24 + 0))
        generalize x_setc g40 (x_ce h24 + 0) (x_so h24 + 0) = h45 at V44 ⊢
        refine q_goto ?_
        refine xR.blk c71_109 ?_
        exact q_ret (hZ _ _ ⟨⟨V44.1, V44.2.1⟩, rfl⟩)
      · skip
        have f46 : L c 4 j34 := ⟨Nat.one_le_iff_ne_zero.mpr d36, f35⟩
        refine q_aload rfl (by decide) ?_
        refine q_aload rfl (by decide) ?_
        refine v_gfi V23 f28 (fun v47 => ?_)
        refine q_callv rfl (by decide) (V23.lv f46) (Nat.le_of_ble_eq_true rfl) (Nat.le_of_ble_eq_true rfl) (by rw [V23.2.2.1]; decide) (by rw [V23.2.2.2]; decide) ?_
        refine xC.up (tv35 (x0 := j34) (x1 := v47) V23.set f46 (fun o49 g50 hp => ?_)) (by omega)
        obtain ⟨rfl, ⟨v52, rfl⟩⟩ := hp
        show x_seq _ _ _ _ ([.inr (.inr (7, x0)), .inr (.inr (3, x1)), .inl v8, .inr (.inr (1, j27)), .inr (.inr (4, j34))], [.inl v52], h24)
        refine v_iconst (k := 2) rfl (fun v54 e55 => ?_)
        refine v_icmp_ge (fun d56 => ?_) (fun d56 => ?_)
        · skip
          refine xR.blk c71_75 ?_
          refine q_aload rfl (by decide) ?_
          refine v_gfi V23 f46 (fun v57 => ?_)
          refine v_if_eq (fun d59 => ?_) (fun d59 => ?_)
          · skip
            refine xR.blk c71_101 ?_
            refine q_aload rfl (by decide) ?_
            refine q_aload rfl (by decide) ?_
            refine q_aload rfl (by decide) ?_
            refine q_aload rfl (by decide) ?_
            refine q_callv rfl (by decide) (V23.lv g0) (Nat.le_of_ble_eq_true rfl) (Nat.le_of_ble_eq_true rfl) (by rw [V23.2.2.1]; decide) (by rw [V23.2.2.2]; decide) ?_
            refine xC.up (tv70 (x0 := x0) (x1 := x1) (x2 := j27) (x3 := j34) V23.set g0 g1 f28 f46 (fun o60 g61 hp => ?_)) (by omega)
            obtain ⟨hg62, rfl⟩ := hp
            have V65 := VI.after (mc := 0) (ms := 0) V23 hg62
            show x_seq _ _ _ _ ([.inr (.inr (7, x0)), .inr (.inr (3, x1)), .inl v8, .inr (.inr (1, j27)), .inr (.inr (4, j34))], [], x_setc g61 (x_ce h24 + 0) (x_so h24 + 0))
            generalize x_setc g61 (x_ce h24 + 0) (x_so h24 + 0) = h66 at V65 ⊢
            refine q_goto ?_
            refine xR.blk c71_109 ?_
            exact q_ret (hZ _ _ ⟨⟨V65.1, V65.2.1⟩, rfl⟩)
          · skip
            refine q_aload rfl (by decide) ?_
            refine q_aload rfl (by decide) ?_
            refine q_aload rfl (by decide) ?_
            refine q_aload rfl (by decide) ?_
            refine q_aload rfl (by decide) ?_
            refine v_gfi V23 f28 (fun v67 => ?_)
            refine q_callv rfl (by decide) (V23.lv f46) (Nat.le_of_ble_eq_true rfl) (Nat.le_of_ble_eq_true rfl) (by rw [V23.2.2.1]; decide) (by rw [V23.2.2.2]; decide) ?_
            refine xC.up (tv36 (x0 := j34) (x1 := v67) V23.set f46 (fun o69 g70 hp => ?_)) (by omega)
            obtain ⟨rfl, ⟨v72, rfl⟩⟩ := hp
            show x_seq _ _ _ _ ([.inr (.inr (7, x0)), .inr (.inr (3, x1)), .inl v8, .inr (.inr (1, j27)), .inr (.inr (4, j34))], [.inl v72, .inr (.inr (1, j27)), .inr (.inr (3, x1)), .inr (.inr (7, x0))], h24)
            refine q_callv rfl (by decide) (V23.lv g0) (Nat.le_of_ble_eq_true rfl) (Nat.le_of_ble_eq_true rfl) (by rw [V23.2.2.1]; decide) (by rw [V23.2.2.2]; decide) ?_
            refine xC.up (tv67 (x0 := x0) (x1 := x1) (x2 := j27) (x3 := v72) V23.set g0 g1 f28 (fun o74 g75 hp => ?_)) (by omega)
            obtain ⟨hg76, rfl⟩ := hp
            have V79 := VI.after (mc := 0) (ms := 0) V23 hg76
            show x_seq _ _ _ _ ([.inr (.inr (7, x0)), .inr (.inr (3, x1)), .inl v8, .inr (.inr (1, j27)), .inr (.inr (4, j34))], [], x_setc g75 (x_ce h24 + 0) (x_so h24 + 0))
            generalize x_setc g75 (x_ce h24 + 0) (x_so h24 + 0) = h80 at V79 ⊢
            refine q_goto ?_
            refine xR.blk c71_109 ?_
            exact q_ret (hZ _ _ ⟨⟨V79.1, V79.2.1⟩, rfl⟩)
        · skip
          refine q_goto ?_
          refine xR.blk c71_66 ?_
          refine q_aload rfl (by decide) ?_
          refine q_aload rfl (by decide) ?_
          refine v_iconst (k := 5) rfl (fun v81 e82 => ?_)
          refine q_callv rfl (by decide) (V23.lv g0) (Nat.le_of_ble_eq_true rfl) (Nat.le_of_ble_eq_true rfl) (by rw [V23.2.2.1]; decide) (by rw [V23.2.2.2]; decide) ?_
          refine xC.up (tv59 (x0 := x0) (x1 := j27) (x2 := v81) V23.set g0 f28 (fun o83 g84 hp => ?_)) (by omega)
          obtain ⟨hg85, rfl⟩ := hp
          have V88 := VI.after (mc := 0) (ms := 0) V23 hg85
          show x_seq _ _ _ _ ([.inr (.inr (7, x0)), .inr (.inr (3, x1)), .inl v8, .inr (.inr (1, j27)), .inr (.inr (4, j34))], [], x_setc g84 (x_ce h24 + 0) (x_so h24 + 0))
          generalize x_setc g84 (x_ce h24 + 0) (x_so h24 + 0) = h89 at V88 ⊢
          refine q_goto ?_
          refine xR.blk c71_109 ?_
          exact q_ret (hZ _ _ ⟨⟨V88.1, V88.2.1⟩, rfl⟩)
    · skip
      refine q_goto ?_
      refine xR.blk c71_22 ?_
      exact q_ret (hZ _ _ ⟨⟨V.1, V.2.1⟩, rfl⟩)
theorem tv72 {c : xP} {h : xH} {Z : xO → xH → Prop} {x0 : Nat} {x1 : Nat} (V : VI c 0 0 h) (g0 : L c 7 x0) (g1 : L c 1 x1) (hZ : ∀ (o : xO) (g : xH), (CI g ∧ x_pj g = c) ∧ (o = .inl none) → Z o g) : xC 600 72 [.inr (.inr (7, x0)), .inr (.inr (1, x1))] h Z := by
  refine ⟨rfl, V.2.2.1, V.2.2.2, ?_⟩
  show xR _ 72 0 ([.inr (.inr (7, x0)), .inr (.inr (1, x1))], [], h) Z
  refine xR.blk c72_0 ?_
  refine q_aload rfl (by decide) ?_
  refine q_dup rfl ?_
  refine v_gfi V g1 (fun v1 => ?_)
  refine v_iconst (k := 1) rfl (fun v3 e4 => ?_)
  refine v_bin (fun v5 => ?_)
  refine v_pfi V rfl (fun lo hi hm => by simp only [x_rgl, List.mem_cons, Prod.mk.injEq, List.not_mem_nil, or_false] at hm; omega) rfl g1 (fun h7 V8 => ?_)
  refine q_aload rfl (by decide) ?_
  refine v_gfi V8 g1 (fun v9 => ?_)
  refine v_if_gt (fun d11 => ?_) (fun d11 => ?_)
  · skip
    refine xR.blk c72_48 ?_
    exact q_ret (hZ _ _ ⟨⟨V8.1, V8.2.1⟩, rfl⟩)
  · skip
    refine q_aload rfl (by decide) ?_
    refine q_aload rfl (by decide) ?_
    refine q_aload rfl (by decide) ?_
    refine v_gfi V8 g1 (fun v12 => ?_)
    refine q_callv rfl (by decide) (V8.lv g0) (Nat.le_of_ble_eq_true rfl) (Nat.le_of_ble_eq_true rfl) (by rw [V8.2.2.1]; decide) (by rw [V8.2.2.2]; decide) ?_
    refine xC.up (tv66 (x0 := x0) (x1 := x1) (x2 := v12) V8.set g0 g1 (fun o14 g15 hp => ?_)) (by omega)
    obtain ⟨hg16, rfl⟩ := hp
    have V19 := VI.after (mc := 0) (ms := 0) V8 hg16
    show x_seq _ _ _ _ ([.inr (.inr (7, x0)), .inr (.inr (1, x1))], [], x_setc g15 (x_ce h7 + 0) (x_so h7 + 0))
    generalize x_setc g15 (x_ce h7 + 0) (x_so h7 + 0) = h20 at V19 ⊢
    refine q_aload rfl (by decide) ?_
    refine q_aload rfl (by decide) ?_
    refine v_gfi V19 g1 (fun v21 => ?_)
    refine v_pfi V19 rfl (fun lo hi hm => by simp only [x_rgl, List.mem_cons, Prod.mk.injEq, List.not_mem_nil, or_false] at hm; omega) rfl g1 (fun h23 V24 => ?_)
    refine q_aload rfl (by decide) ?_
    refine q_aload rfl (by decide) ?_
    refine v_gfrn V24 (by decide) rfl g0 (fun j25 f26 => ?_)
    refine q_aload rfl (by decide) ?_
    refine v_gfir V24 (lo := 0) (hi := 2) (by decide) g1 (fun v27 e28 => ?_)
    refine v_aaldn V24 (L' := 3) (by decide) (by decide) rfl f26 (by omega) (by omega) (fun j29 f30 => ?_)
    refine q_aload rfl (by decide) ?_
    refine q_callv rfl (by decide) (V24.lv g0) (Nat.le_of_ble_eq_true rfl) (Nat.le_of_ble_eq_true rfl) (by rw [V24.2.2.1]; decide) (by rw [V24.2.2.2]; decide) ?_
    refine xC.up (tv61 (x0 := x0) (x1 := j29) (x2 := x1) V24.set g0 f30 g1 (fun o31 g32 hp => ?_)) (by omega)
    obtain ⟨hg33, rfl⟩ := hp
    have V36 := VI.after (mc := 0) (ms := 0) V24 hg33
    show x_seq _ _ _ _ ([.inr (.inr (7, x0)), .inr (.inr (1, x1))], [], x_setc g32 (x_ce h23 + 0) (x_so h23 + 0))
    generalize x_setc g32 (x_ce h23 + 0) (x_so h23 + 0) = h37 at V36 ⊢
    refine q_goto ?_
    refine xR.blk c72_48 ?_
    exact q_ret (hZ _ _ ⟨⟨V36.1, V36.2.1⟩, rfl⟩)
