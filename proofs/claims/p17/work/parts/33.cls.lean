theorem tv2 {c : xP} {h : xH} {Z : xO → xH → Prop} {x0 : Nat} {x1 : Int32} (V : VI c 0 0 h) (g0 : L c 1 x0) (g1 : 0 ≤ x1.toInt ∧ x1.toInt ≤ 2) (hZ : ∀ (o : xO) (g : xH), (CI g ∧ x_pj g = c) ∧ (o = .inl none) → Z o g) : xC 10 2 [.inr (.inr (1, x0)), .inl x1] h Z := by
  refine ⟨rfl, V.2.2.1, V.2.2.2, ?_⟩
  show xR _ 2 0 ([.inr (.inr (1, x0)), .inl x1], [], h) Z
  refine xR.blk c2_0 ?_
  refine q_aload rfl (by decide) ?_
  refine q_iload rfl ?_
  refine v_pfi V rfl (fun lo hi hm => by simp only [x_rgl, List.mem_cons, Prod.mk.injEq, List.not_mem_nil, or_false] at hm; omega) rfl g0 (fun h1 V2 => ?_)
  refine q_aload rfl (by decide) ?_
  refine q_dup rfl ?_
  refine v_gfi V2 g0 (fun v3 => ?_)
  refine v_iconst (k := 1) rfl (fun v5 e6 => ?_)
  refine q_iload rfl ?_
  refine v_bin (fun v7 => ?_)
  refine v_bin (fun v9 => ?_)
  refine v_pfi V2 rfl (fun lo hi hm => by simp only [x_rgl, List.mem_cons, Prod.mk.injEq, List.not_mem_nil, or_false] at hm; omega) rfl g0 (fun h11 V12 => ?_)
  exact q_ret (hZ _ _ ⟨⟨V12.1, V12.2.1⟩, rfl⟩)
theorem tv3 {c : xP} {h : xH} {Z : xO → xH → Prop} {x0 : Nat} {x1 : Int32} (V : VI c 0 0 h) (g0 : L c 1 x0) (hZ : ∀ (o : xO) (g : xH), (CI g ∧ x_pj g = c) ∧ (o = .inl none) → Z o g) : xC 20 3 [.inr (.inr (1, x0)), .inl x1] h Z := by
  refine ⟨rfl, V.2.2.1, V.2.2.2, ?_⟩
  show xR _ 3 0 ([.inr (.inr (1, x0)), .inl x1], [], h) Z
  refine xR.blk c3_0 ?_
  refine q_aload rfl (by decide) ?_
  refine q_stage ?_
  refine v_pfr V (by decide) rfl g0 (by rw [V.cnt (n := 6) (by decide)]; decide) rfl (fun h1 V2 => ?_)
  refine q_aload rfl (by decide) ?_
  refine q_null ?_
  refine v_pfr V2 (by decide) rfl g0 (Nat.zero_le _) rfl (fun h3 V4 => ?_)
  refine q_aload rfl (by decide) ?_
  refine v_iconst (k := 1) rfl (fun v5 e6 => ?_)
  refine v_pfi V4 rfl (fun lo hi hm => by simp only [x_rgl, List.mem_cons, Prod.mk.injEq, List.not_mem_nil, or_false] at hm; omega) rfl g0 (fun h7 V8 => ?_)
  refine q_aload rfl (by decide) ?_
  refine v_iconst (k := 0) rfl (fun v9 e10 => ?_)
  refine v_pfi V8 rfl (fun lo hi hm => by simp only [x_rgl, List.mem_cons, Prod.mk.injEq, List.not_mem_nil, or_false] at hm; omega) rfl g0 (fun h11 V12 => ?_)
  refine q_aload rfl (by decide) ?_
  refine q_aload rfl (by decide) ?_
  refine v_gfrn V12 (by decide) rfl g0 (fun j13 f14 => ?_)
  refine v_gfir V12 (lo := 0) (hi := 2) (by decide) f14 (fun v15 e16 => ?_)
  refine q_callv rfl (by decide) (V12.lv g0) (Nat.le_of_ble_eq_true rfl) (Nat.le_of_ble_eq_true rfl) (by rw [V12.2.2.1]; decide) (by rw [V12.2.2.2]; decide) ?_
  refine xC.up (tv2 (x0 := x0) (x1 := v15) V12.set g0 (by omega) (fun o17 g18 hp => ?_)) (by omega)
  obtain ⟨hg19, rfl⟩ := hp
  have V22 := VI.after (mc := 0) (ms := 0) V12 hg19
  show x_seq _ _ _ _ ([.inr (.inr (1, x0)), .inl x1], [], x_setc g18 (x_ce h11 + 0) (x_so h11 + 0))
  generalize x_setc g18 (x_ce h11 + 0) (x_so h11 + 0) = h23 at V22 ⊢
  refine q_aload rfl (by decide) ?_
  refine q_iload rfl ?_
  refine v_pfi V22 rfl (fun lo hi hm => by simp only [x_rgl, List.mem_cons, Prod.mk.injEq, List.not_mem_nil, or_false] at hm; omega) rfl g0 (fun h24 V25 => ?_)
  refine q_aload rfl (by decide) ?_
  refine v_iconst (k := 0) rfl (fun v26 e27 => ?_)
  refine v_pfi V25 rfl (fun lo hi hm => by simp only [x_rgl, List.mem_cons, Prod.mk.injEq, List.not_mem_nil, or_false] at hm; omega) rfl g0 (fun h28 V29 => ?_)
  exact q_ret (hZ _ _ ⟨⟨V29.1, V29.2.1⟩, rfl⟩)
theorem tv4 {c : xP} {h : xH} {Z : xO → xH → Prop} {x0 : Nat} {x1 : Int32} (V : VI c 0 0 h) (g0 : L c 1 x0) (hZ : ∀ (o : xO) (g : xH), g = h ∧ (∃ v : Int32, o = .inl (some (.inl v)) ∧ 0 ≤ v.toInt ∧ v.toInt ≤ 1) → Z o g) : xC 10 4 [.inr (.inr (1, x0)), .inl x1] h Z := by
  refine ⟨rfl, V.2.2.1, V.2.2.2, ?_⟩
  show xR _ 4 0 ([.inr (.inr (1, x0)), .inl x1], [], h) Z
  refine xR.blk c4_0 ?_
  refine q_aload rfl (by decide) ?_
  refine v_gfi V g0 (fun v1 => ?_)
  refine q_iload rfl ?_
  refine v_bin (fun v3 => ?_)
  refine v_iconst (k := 1) rfl (fun v5 e6 => ?_)
  refine v_bin (fun v7 => ?_)
  refine v_if_eq (fun d9 => ?_) (fun d9 => ?_)
  · skip
    refine xR.blk c4_15 ?_
    refine v_iconst (k := 0) rfl (fun v10 e11 => ?_)
    refine q_goto ?_
    refine xR.blk c4_16 ?_
    exact q_zret (i32_01 (by omega)) (hZ _ _ ⟨rfl, ⟨_, rfl, by omega⟩⟩)
  · skip
    refine v_iconst (k := 1) rfl (fun v12 e13 => ?_)
    refine q_goto ?_
    refine xR.blk c4_16 ?_
    exact q_zret (i32_01 (by omega)) (hZ _ _ ⟨rfl, ⟨_, rfl, by omega⟩⟩)
theorem tv5 {c : xP} {h : xH} {Z : xO → xH → Prop} {x0 : Nat} (V : VI c 0 0 h) (g0 : L c 1 x0) (hZ : ∀ (o : xO) (g : xH), g = h ∧ (∃ v : Int32, o = .inl (some (.inl v)) ∧ (0 ≤ v.toInt ∧ v.toInt ≤ 1 ∧ (v.toInt = 0 ∨ 1 ≤ x_vr h 1 3 x0))) → Z o g) : xC 10 5 [.inr (.inr (1, x0))] h Z := by
  refine ⟨rfl, V.2.2.1, V.2.2.2, ?_⟩
  show xR _ 5 0 ([.inr (.inr (1, x0))], [], h) Z
  refine xR.blk c5_0 ?_
  refine q_aload rfl (by decide) ?_
  refine q_gfr (V.lv g0) ?_
  refine q_ifnull (fun d1 => ?_) (fun d1 => ?_)
  · skip
    refine xR.blk c5_21 ?_
    refine v_iconst (k := 0) rfl (fun v2 e3 => ?_)
    refine q_goto ?_
    refine xR.blk c5_22 ?_
    exact q_zret (i32_01 (by omega)) (hZ _ _ ⟨rfl, ⟨_, rfl, by omega⟩⟩)
  · skip
    have f4 : L c 2 (x_vr h 1 3 x0) := ⟨Nat.one_le_iff_ne_zero.mpr d1, (V.nu (K := 1) (k := 3) (by decide) g0)⟩
    refine q_aload rfl (by decide) ?_
    refine q_gfr (V.lv g0) ?_
    refine v_gfi V f4 (fun v5 => ?_)
    refine v_if_eq (fun d7 => ?_) (fun d7 => ?_)
    · skip
      refine xR.blk c5_21 ?_
      refine v_iconst (k := 0) rfl (fun v8 e9 => ?_)
      refine q_goto ?_
      refine xR.blk c5_22 ?_
      exact q_zret (i32_01 (by omega)) (hZ _ _ ⟨rfl, ⟨_, rfl, by omega⟩⟩)
    · skip
      refine v_iconst (k := 1) rfl (fun v10 e11 => ?_)
      refine q_goto ?_
      refine xR.blk c5_22 ?_
      exact q_zret (i32_01 (by omega)) (hZ _ _ ⟨rfl, ⟨_, rfl, by omega⟩⟩)
theorem tv6 {c : xP} {h : xH} {Z : xO → xH → Prop} {x0 : Nat} (V : VI c 0 0 h) (g0 : L c 1 x0) (hZ : ∀ (o : xO) (g : xH), g = h ∧ (∃ v : Int32, o = .inl (some (.inl v))) → Z o g) : xC 10 6 [.inr (.inr (1, x0))] h Z := by
  refine ⟨rfl, V.2.2.1, V.2.2.2, ?_⟩
  show xR _ 6 0 ([.inr (.inr (1, x0))], [], h) Z
  refine xR.blk c6_0 ?_
  refine q_aload rfl (by decide) ?_
  refine q_gfr (V.lv g0) ?_
  refine q_ifnonnull (fun d1 => ?_) (fun d1 => ?_)
  · skip
    have f2 : L c 4 (x_vr h 1 4 x0) := ⟨Nat.one_le_iff_ne_zero.mpr d1, (V.nu (K := 1) (k := 4) (by decide) g0)⟩
    refine xR.blk c6_11 ?_
    refine q_aload rfl (by decide) ?_
    refine q_gfr (V.lv g0) ?_
    refine v_gfi V f2 (fun v3 => ?_)
    refine q_goto ?_
    refine xR.blk c6_18 ?_
    exact q_iret (hZ _ _ ⟨rfl, ⟨_, rfl⟩⟩)
  · skip
    refine v_iconst (k := 0) rfl (fun v5 e6 => ?_)
    refine q_goto ?_
    refine xR.blk c6_18 ?_
    exact q_iret (hZ _ _ ⟨rfl, ⟨_, rfl⟩⟩)
theorem tv7 {c : xP} {h : xH} {Z : xO → xH → Prop} {x0 : Nat} (V : VI c 0 0 h) (g0 : L c 1 x0) (hZ : ∀ (o : xO) (g : xH), g = h ∧ (∃ v : Int32, o = .inl (some (.inl v))) → Z o g) : xC 10 7 [.inr (.inr (1, x0))] h Z := by
  refine ⟨rfl, V.2.2.1, V.2.2.2, ?_⟩
  show xR _ 7 0 ([.inr (.inr (1, x0))], [], h) Z
  refine xR.blk c7_0 ?_
  refine q_aload rfl (by decide) ?_
  refine q_gfr (V.lv g0) ?_
  refine q_ifnonnull (fun d1 => ?_) (fun d1 => ?_)
  · skip
    have f2 : L c 4 (x_vr h 1 4 x0) := ⟨Nat.one_le_iff_ne_zero.mpr d1, (V.nu (K := 1) (k := 4) (by decide) g0)⟩
    refine xR.blk c7_11 ?_
    refine q_aload rfl (by decide) ?_
    refine q_gfr (V.lv g0) ?_
    refine v_gfi V f2 (fun v3 => ?_)
    refine q_goto ?_
    refine xR.blk c7_18 ?_
    exact q_iret (hZ _ _ ⟨rfl, ⟨_, rfl⟩⟩)
  · skip
    refine v_iconst (k := 0) rfl (fun v5 e6 => ?_)
    refine q_goto ?_
    refine xR.blk c7_18 ?_
    exact q_iret (hZ _ _ ⟨rfl, ⟨_, rfl⟩⟩)
theorem tv9 {c : xP} {h : xH} {Z : xO → xH → Prop} {x0 : Nat} (V : VI c 0 0 h) (g0 : L c 2 x0) (hZ : ∀ (o : xO) (g : xH), g = h ∧ (∃ v : Int32, o = .inl (some (.inl v)) ∧ 0 ≤ v.toInt ∧ v.toInt ≤ 71) → Z o g) : xC 10 9 [.inr (.inr (2, x0))] h Z := by
  refine ⟨rfl, V.2.2.1, V.2.2.2, ?_⟩
  show xR _ 9 0 ([.inr (.inr (2, x0))], [], h) Z
  refine xR.blk c9_0 ?_
  refine q_aload rfl (by decide) ?_
  refine v_gfir V (lo := 0) (hi := 2) (by decide) g0 (fun v1 e2 => ?_)
  refine v_iconst (k := 24) rfl (fun v3 e4 => ?_)
  refine v_imul e4 (by omega) (fun v5 e6 => ?_)
  refine q_aload rfl (by decide) ?_
  refine v_gfir V (lo := 0) (hi := 23) (by decide) g0 (fun v7 e8 => ?_)
  refine v_iadd (by have b8 := Int32.toInt_lt v5; have b9 := Int32.toInt_lt v7; omega) (fun v9 e10 => ?_)
  exact q_iret (hZ _ _ ⟨rfl, ⟨_, rfl, by omega⟩⟩)
theorem tv10 {c : xP} {h : xH} {Z : xO → xH → Prop} {x0 : Nat} (V : VI c 0 0 h) (g0 : L c 2 x0) (hZ : ∀ (o : xO) (g : xH), g = h ∧ (∃ v : Int32, o = .inl (some (.inl v)) ∧ 0 ≤ v.toInt ∧ v.toInt ≤ 8) → Z o g) : xC 10 10 [.inr (.inr (2, x0))] h Z := by
  refine ⟨rfl, V.2.2.1, V.2.2.2, ?_⟩
  show xR _ 10 0 ([.inr (.inr (2, x0))], [], h) Z
  refine xR.blk c10_0 ?_
  refine q_aload rfl (by decide) ?_
  refine v_gfir V (lo := 0) (hi := 23) (by decide) g0 (fun v1 e2 => ?_)
  refine v_iconst (k := 8) rfl (fun v3 e4 => ?_)
  refine v_idiv e4 (by decide) (by omega) (fun v5 e6 => ?_)
  refine v_iconst (k := 4) rfl (fun v7 e8 => ?_)
  refine v_imul e8 (by omega) (fun v9 e10 => ?_)
  exact q_iret (hZ _ _ ⟨rfl, ⟨_, rfl, by omega⟩⟩)
theorem tv11 {c : xP} {h : xH} {Z : xO → xH → Prop} {x0 : Nat} (V : VI c 0 0 h) (g0 : L c 2 x0) (hZ : ∀ (o : xO) (g : xH), g = h ∧ (∃ v : Int32, o = .inl (some (.inl v)) ∧ 0 ≤ v.toInt ∧ v.toInt ≤ 1) → Z o g) : xC 10 11 [.inr (.inr (2, x0))] h Z := by
  refine ⟨rfl, V.2.2.1, V.2.2.2, ?_⟩
  show xR _ 11 0 ([.inr (.inr (2, x0))], [], h) Z
  refine xR.blk c11_0 ?_
  refine q_aload rfl (by decide) ?_
  refine v_gfi V g0 (fun v1 => ?_)
  refine v_if_ne (fun d3 => ?_) (fun d3 => ?_)
  · skip
    refine xR.blk c11_18 ?_
    refine v_iconst (k := 0) rfl (fun v4 e5 => ?_)
    refine q_goto ?_
    refine xR.blk c11_19 ?_
    exact q_zret (i32_01 (by omega)) (hZ _ _ ⟨rfl, ⟨_, rfl, by omega⟩⟩)
  · skip
    refine q_aload rfl (by decide) ?_
    refine q_gfr (V.lv g0) ?_
    refine q_ifnonnull (fun d6 => ?_) (fun d6 => ?_)
    · skip
      have f7 : L c 1 (x_vr h 2 5 x0) := ⟨Nat.one_le_iff_ne_zero.mpr d6, (V.nu (K := 2) (k := 5) (by decide) g0)⟩
      refine xR.blk c11_18 ?_
      refine v_iconst (k := 0) rfl (fun v8 e9 => ?_)
      refine q_goto ?_
      refine xR.blk c11_19 ?_
      exact q_zret (i32_01 (by omega)) (hZ _ _ ⟨rfl, ⟨_, rfl, by omega⟩⟩)
    · skip
      refine v_iconst (k := 1) rfl (fun v10 e11 => ?_)
      refine q_goto ?_
      refine xR.blk c11_19 ?_
      exact q_zret (i32_01 (by omega)) (hZ _ _ ⟨rfl, ⟨_, rfl, by omega⟩⟩)
theorem tv12 {c : xP} {h : xH} {Z : xO → xH → Prop} {x0 : Nat} {x1 : Int32} (V : VI c 0 0 h) (g0 : L c 2 x0) (hZ : ∀ (o : xO) (g : xH), (CI g ∧ x_pj g = c) ∧ (o = .inl none) → Z o g) : xC 10 12 [.inr (.inr (2, x0)), .inl x1] h Z := by
  refine ⟨rfl, V.2.2.1, V.2.2.2, ?_⟩
  show xR _ 12 0 ([.inr (.inr (2, x0)), .inl x1], [], h) Z
  refine xR.blk c12_0 ?_
  refine q_aload rfl (by decide) ?_
  refine q_null ?_
  refine v_pfr V (by decide) rfl g0 (Nat.zero_le _) rfl (fun h1 V2 => ?_)
  refine q_aload rfl (by decide) ?_
  refine q_aload rfl (by decide) ?_
  refine v_gfi V2 g0 (fun v3 => ?_)
  refine v_if_eq (fun d5 => ?_) (fun d5 => ?_)
  · skip
    refine xR.blk c12_17 ?_
    refine v_iconst (k := 0) rfl (fun v6 e7 => ?_)
    refine q_goto ?_
    refine xR.blk c12_18 ?_
    refine v_pfi V2 rfl (fun lo hi hm => by simp only [x_rgl, List.mem_cons, Prod.mk.injEq, List.not_mem_nil, or_false] at hm; omega) rfl g0 (fun h8 V9 => ?_)
    exact q_ret (hZ _ _ ⟨⟨V9.1, V9.2.1⟩, rfl⟩)
  · skip
    refine q_iload rfl ?_
    refine q_goto ?_
    refine xR.blk c12_18 ?_
    refine v_pfi V2 rfl (fun lo hi hm => by simp only [x_rgl, List.mem_cons, Prod.mk.injEq, List.not_mem_nil, or_false] at hm; omega) rfl g0 (fun h10 V11 => ?_)
    exact q_ret (hZ _ _ ⟨⟨V11.1, V11.2.1⟩, rfl⟩)
theorem tv14 {c : xP} {h : xH} {Z : xO → xH → Prop} {x0 : Nat} {x1 : Int32} (V : VI c 0 0 h) (g0 : L c 3 x0) (hZ : ∀ (o : xO) (g : xH), g = h ∧ (∃ v : Int32, o = .inl (some (.inl v))) → Z o g) : xC 10 14 [.inr (.inr (3, x0)), .inl x1] h Z := by
  refine ⟨rfl, V.2.2.1, V.2.2.2, ?_⟩
  show xR _ 14 0 ([.inr (.inr (3, x0)), .inl x1], [], h) Z
  refine xR.blk c14_0 ?_
  refine v_iconst (k := 1000) rfl (fun v1 e2 => ?_)
  refine q_aload rfl (by decide) ?_
  refine v_gfir V (lo := 0) (hi := 2) (by decide) g0 (fun v3 e4 => ?_)
  refine v_bin (fun v5 => ?_)
  refine q_iload rfl ?_
  refine v_bin (fun v7 => ?_)
  exact q_iret (hZ _ _ ⟨rfl, ⟨_, rfl⟩⟩)
theorem tv15 {c : xP} {h : xH} {Z : xO → xH → Prop} {x0 : Nat} {x1 : Int32} (V : VI c 0 0 h) (g0 : L c 3 x0) (hZ : ∀ (o : xO) (g : xH), g = h ∧ (∃ j : Nat, o = .inl (some (.inr (.inr (4, j)))) ∧ j ≤ c.1 4) → Z o g) : xC 300 15 [.inr (.inr (3, x0)), .inl x1] h Z := by
  refine ⟨rfl, V.2.2.1, V.2.2.2, ?_⟩
  show xR _ 15 0 ([.inr (.inr (3, x0)), .inl x1, .inr (.inr (0, 0))], [], h) Z
  refine xR.blk c15_0 ?_
  refine v_iconst (k := 0) rfl (fun v1 e2 => ?_)
  refine q_istore (Nat.le_of_ble_eq_true rfl) ?_
  show x_seq _ _ _ _ ([.inr (.inr (3, x0)), .inl x1, .inl v1], [], h)
  refine q_goto ?_
  have lp4 : ∀ (m3 : Nat) (ylp4_2 : Int32), (0 ≤ ylp4_2.toInt ∧ ylp4_2.toInt ≤ 12) → (12 - ylp4_2.toInt).toNat < m3 → xR (10 + 8 * m3) 15 2 ([.inr (.inr (3, x0)), .inl x1, .inl ylp4_2], [], h) Z := by
    intro m3
    induction m3 with
    | zero => intro ylp4_2 klp4_2 kmlp4; exact absurd kmlp4 (by omega)
    | succ m3 ih5 =>
      intro ylp4_2 klp4_2 kmlp4
      rw [show 10 + 8 * (m3 + 1) = 10 + 8 * m3 + 8 by omega]
      refine xR.blk c15_2 ?_
      refine q_iload rfl ?_
      refine q_aload rfl (by decide) ?_
      refine q_gfi (V.lv g0) ?_
      have e8 : 0 ≤ (x_vi h 3 7 x0).toInt ∧ (x_vi h 3 7 x0).toInt ≤ 12 := V.rg (K := 3) (k := 7) (lo := 0) (hi := 12) (by decide) g0
      refine v_icmp_ge (fun d9 => ?_) (fun d9 => ?_)
      · skip
        refine xR.blk c15_36 ?_
        refine q_null ?_
        exact q_aret (hZ _ _ ⟨rfl, ⟨_, rfl, (Nat.zero_le _)⟩⟩)
      · skip
        refine q_aload rfl (by decide) ?_
        refine q_gfr (V.lv g0) ?_
        refine q_iload rfl ?_
        refine q_aald (V.lv (V.nn (K := 3) (k := 3) (by decide) g0)) (V.inn (L' := 12) (by decide) (V.nn (K := 3) (k := 3) (by decide) g0) (by omega) (by omega)) ?_
        have f11 : L c 4 (x_vr h 18 (x_vr h 3 3 x0) ylp4_2.toNatClampNeg) := V.of (V.1.2.2.2.2.2.2.2.2.1 x0 ylp4_2.toNatClampNeg (V.lv g0) (by have h9 := x_clamp (n := ylp4_2) (by omega); show (_ : Int) < (x_vi h 3 7 x0).toInt; omega))
        refine v_gfi V f11 (fun v12 => ?_)
        refine q_iload rfl ?_
        refine v_icmp_ne (fun d14 => ?_) (fun d14 => ?_)
        · skip
          refine xR.blk c15_30 ?_
          refine v_iinc (k := 1) rfl rfl (by omega) (by have b9 := Int32.toInt_lt ylp4_2; omega) (fun v15 e16 => ?_)
          show x_seq _ _ _ _ ([.inr (.inr (3, x0)), .inl x1, .inl v15], [], h)
          refine q_goto ?_
          exact (ih5 v15  (by omega) (by omega)).up (by omega)
        · skip
          refine q_aload rfl (by decide) ?_
          refine q_gfr (V.lv g0) ?_
          refine q_iload rfl ?_
          refine q_aald (V.lv (V.nn (K := 3) (k := 3) (by decide) g0)) (V.inn (L' := 12) (by decide) (V.nn (K := 3) (k := 3) (by decide) g0) (by omega) (by omega)) ?_
          have f18 : L c 4 (x_vr h 18 (x_vr h 3 3 x0) ylp4_2.toNatClampNeg) := V.of (V.1.2.2.2.2.2.2.2.2.1 x0 ylp4_2.toNatClampNeg (V.lv g0) (by have h9 := x_clamp (n := ylp4_2) (by omega); show (_ : Int) < (x_vi h 3 7 x0).toInt; omega))
          exact q_aret (hZ _ _ ⟨rfl, ⟨_, rfl, f18.2⟩⟩)
  exact (lp4 13 v1  (by omega) (by omega)).up (by omega)
theorem tv16 {c : xP} {h : xH} {Z : xO → xH → Prop} {x0 : Int32} {x1 : Int32} (V : VI c 0 0 h)  (hZ : ∀ (o : xO) (g : xH), g = h ∧ (∃ v : Int32, o = .inl (some (.inl v)) ∧ 0 ≤ v.toInt ∧ v.toInt ≤ 1) → Z o g) : xC 20000000000 16 [.inl x0, .inl x1] h Z := by
  refine ⟨rfl, V.2.2.1, V.2.2.2, ?_⟩
  show xR _ 16 0 ([.inl x0, .inl x1, .inr (.inr (0, 0))], [], h) Z
  refine xR.blk c16_0 ?_
  refine q_iload rfl ?_
  refine q_istore (Nat.le_of_ble_eq_true rfl) ?_
  show x_seq _ _ _ _ ([.inl x0, .inl x1, .inl x0], [], h)
  refine q_goto ?_
  have lp2 : ∀ (m1 : Nat) (ylp2_2 : Int32), (ylp2_2.toInt).toNat < m1 → xR (10 + 8 * m1) 16 2 ([.inl x0, .inl x1, .inl ylp2_2], [], h) Z := by
    intro m1
    induction m1 with
    | zero => intro ylp2_2 kmlp2; exact absurd kmlp2 (by omega)
    | succ m1 ih3 =>
      intro ylp2_2 kmlp2
      rw [show 10 + 8 * (m1 + 1) = 10 + 8 * m1 + 8 by omega]
      refine xR.blk c16_2 ?_
      refine q_iload rfl ?_
      refine q_iload rfl ?_
      refine v_icmp_lt (fun d6 => ?_) (fun d6 => ?_)
      · skip
        refine xR.blk c16_26 ?_
        refine v_iconst (k := 0) rfl (fun v7 e8 => ?_)
        exact q_zret (i32_01 (by omega)) (hZ _ _ ⟨rfl, ⟨_, rfl, by omega⟩⟩)
      · skip
        refine q_iload rfl ?_
        refine v_if_le (fun d9 => ?_) (fun d9 => ?_)
        · skip
          refine xR.blk c16_26 ?_
          refine v_iconst (k := 0) rfl (fun v10 e11 => ?_)
          exact q_zret (i32_01 (by omega)) (hZ _ _ ⟨rfl, ⟨_, rfl, by omega⟩⟩)
        · skip
          refine q_iload rfl ?_
          refine q_iload rfl ?_
          refine v_icmp_ne (fun d12 => ?_) (fun d12 => ?_)
          · skip
            refine xR.blk c16_18 ?_
            refine q_iload rfl ?_
            refine v_iconst (k := 10) rfl (fun v13 e14 => ?_)
            refine v_idiv e14 (by decide) (by omega) (fun v15 e16 => ?_)
            refine q_istore (Nat.le_of_ble_eq_true rfl) ?_
            show x_seq _ _ _ _ ([.inl x0, .inl x1, .inl v15], [], h)
            refine q_goto ?_
            exact (ih3 v15   (by omega)).up (by omega)
          · skip
            refine v_iconst (k := 1) rfl (fun v17 e18 => ?_)
            exact q_zret (i32_01 (by omega)) (hZ _ _ ⟨rfl, ⟨_, rfl, by omega⟩⟩)
  exact (lp2 2147483649 x0   (by have b9 := Int32.toInt_lt x0; omega)).up (by omega)
theorem tv17 {c : xP} {h : xH} {Z : xO → xH → Prop} {x0 : Nat} {x1 : Int32} (V : VI c 0 0 h) (g0 : L c 3 x0) (hZ : ∀ (o : xO) (g : xH), g = h ∧ (∃ j : Nat, o = .inl (some (.inr (.inr (4, j)))) ∧ j ≤ c.1 4) → Z o g) : xC 20000001000 17 [.inr (.inr (3, x0)), .inl x1] h Z := by
  refine ⟨rfl, V.2.2.1, V.2.2.2, ?_⟩
  show xR _ 17 0 ([.inr (.inr (3, x0)), .inl x1, .inr (.inr (0, 0))], [], h) Z
  refine xR.blk c17_0 ?_
  refine v_iconst (k := 0) rfl (fun v1 e2 => ?_)
  refine q_istore (Nat.le_of_ble_eq_true rfl) ?_
  show x_seq _ _ _ _ ([.inr (.inr (3, x0)), .inl x1, .inl v1], [], h)
  refine q_goto ?_
  have lp4 : ∀ (m3 : Nat) (ylp4_2 : Int32), (0 ≤ ylp4_2.toInt ∧ ylp4_2.toInt ≤ 12) → (12 - ylp4_2.toInt).toNat < m3 → xR (20000000010 + 8 * m3) 17 2 ([.inr (.inr (3, x0)), .inl x1, .inl ylp4_2], [], h) Z := by
    intro m3
    induction m3 with
    | zero => intro ylp4_2 klp4_2 kmlp4; exact absurd kmlp4 (by omega)
    | succ m3 ih5 =>
      intro ylp4_2 klp4_2 kmlp4
      rw [show 20000000010 + 8 * (m3 + 1) = 20000000010 + 8 * m3 + 8 by omega]
      refine xR.blk c17_2 ?_
      refine q_iload rfl ?_
      refine q_aload rfl (by decide) ?_
      refine q_gfi (V.lv g0) ?_
      have e8 : 0 ≤ (x_vi h 3 7 x0).toInt ∧ (x_vi h 3 7 x0).toInt ≤ 12 := V.rg (K := 3) (k := 7) (lo := 0) (hi := 12) (by decide) g0
      refine v_icmp_ge (fun d9 => ?_) (fun d9 => ?_)
      · skip
        refine xR.blk c17_39 ?_
        refine q_null ?_
        exact q_aret (hZ _ _ ⟨rfl, ⟨_, rfl, (Nat.zero_le _)⟩⟩)
      · skip
        refine q_iload rfl ?_
        refine q_aload rfl (by decide) ?_
        refine q_gfr (V.lv g0) ?_
        refine q_iload rfl ?_
        refine q_aald (V.lv (V.nn (K := 3) (k := 3) (by decide) g0)) (V.inn (L' := 12) (by decide) (V.nn (K := 3) (k := 3) (by decide) g0) (by omega) (by omega)) ?_
        have f11 : L c 4 (x_vr h 18 (x_vr h 3 3 x0) ylp4_2.toNatClampNeg) := V.of (V.1.2.2.2.2.2.2.2.2.1 x0 ylp4_2.toNatClampNeg (V.lv g0) (by have h9 := x_clamp (n := ylp4_2) (by omega); show (_ : Int) < (x_vi h 3 7 x0).toInt; omega))
        refine v_gfi V f11 (fun v12 => ?_)
        refine q_calln (Nat.le_of_ble_eq_true rfl) (Nat.le_of_ble_eq_true rfl) (by rw [V.2.2.1]; decide) (by rw [V.2.2.2]; decide) ?_
        refine xC.up (tv16 (x0 := x1) (x1 := v12) V.set  (fun o14 g15 hp => ?_)) (by omega)
        obtain ⟨rfl, ⟨v17, rfl, f18⟩⟩ := hp
        show x_seq _ _ _ _ ([.inr (.inr (3, x0)), .inl x1, .inl ylp4_2], [.inl v17], h)
        refine v_if_eq (fun d19 => ?_) (fun d19 => ?_)
        · skip
          refine xR.blk c17_33 ?_
          refine v_iinc (k := 1) rfl rfl (by omega) (by have b9 := Int32.toInt_lt ylp4_2; omega) (fun v20 e21 => ?_)
          show x_seq _ _ _ _ ([.inr (.inr (3, x0)), .inl x1, .inl v20], [], h)
          refine q_goto ?_
          exact (ih5 v20  (by omega) (by omega)).up (by omega)
        · skip
          refine q_aload rfl (by decide) ?_
          refine q_gfr (V.lv g0) ?_
          refine q_iload rfl ?_
          refine q_aald (V.lv (V.nn (K := 3) (k := 3) (by decide) g0)) (V.inn (L' := 12) (by decide) (V.nn (K := 3) (k := 3) (by decide) g0) (by omega) (by omega)) ?_
          have f23 : L c 4 (x_vr h 18 (x_vr h 3 3 x0) ylp4_2.toNatClampNeg) := V.of (V.1.2.2.2.2.2.2.2.2.1 x0 ylp4_2.toNatClampNeg (V.lv g0) (by have h9 := x_clamp (n := ylp4_2) (by omega); show (_ : Int) < (x_vi h 3 7 x0).toInt; omega))
          exact q_aret (hZ _ _ ⟨rfl, ⟨_, rfl, f23.2⟩⟩)
  exact (lp4 13 v1  (by omega) (by omega)).up (by omega)
theorem tv18 {c : xP} {h : xH} {Z : xO → xH → Prop} {x0 : Nat} {x1 : Int32} (V : VI c 0 0 h) (g0 : L c 3 x0) (hZ : ∀ (o : xO) (g : xH), g = h ∧ (∃ v : Int32, o = .inl (some (.inl v)) ∧ 0 ≤ v.toInt ∧ v.toInt ≤ 1) → Z o g) : xC 20000001000 18 [.inr (.inr (3, x0)), .inl x1] h Z := by
  refine ⟨rfl, V.2.2.1, V.2.2.2, ?_⟩
  show xR _ 18 0 ([.inr (.inr (3, x0)), .inl x1, .inr (.inr (0, 0))], [], h) Z
  refine xR.blk c18_0 ?_
  refine v_iconst (k := 0) rfl (fun v1 e2 => ?_)
  refine q_istore (Nat.le_of_ble_eq_true rfl) ?_
  show x_seq _ _ _ _ ([.inr (.inr (3, x0)), .inl x1, .inl v1], [], h)
  refine q_goto ?_
  have lp4 : ∀ (m3 : Nat) (ylp4_2 : Int32), (0 ≤ ylp4_2.toInt ∧ ylp4_2.toInt ≤ 12) → (12 - ylp4_2.toInt).toNat < m3 → xR (20000000010 + 8 * m3) 18 2 ([.inr (.inr (3, x0)), .inl x1, .inl ylp4_2], [], h) Z := by
    intro m3
    induction m3 with
    | zero => intro ylp4_2 klp4_2 kmlp4; exact absurd kmlp4 (by omega)
    | succ m3 ih5 =>
      intro ylp4_2 klp4_2 kmlp4
      rw [show 20000000010 + 8 * (m3 + 1) = 20000000010 + 8 * m3 + 8 by omega]
      refine xR.blk c18_2 ?_
      refine q_iload rfl ?_
      refine q_aload rfl (by decide) ?_
      refine q_gfi (V.lv g0) ?_
      have e8 : 0 ≤ (x_vi h 3 7 x0).toInt ∧ (x_vi h 3 7 x0).toInt ≤ 12 := V.rg (K := 3) (k := 7) (lo := 0) (hi := 12) (by decide) g0
      refine v_icmp_ge (fun d9 => ?_) (fun d9 => ?_)
      · skip
        refine xR.blk c18_34 ?_
        refine v_iconst (k := 0) rfl (fun v10 e11 => ?_)
        exact q_zret (i32_01 (by omega)) (hZ _ _ ⟨rfl, ⟨_, rfl, by omega⟩⟩)
      · skip
        refine q_aload rfl (by decide) ?_
        refine q_gfr (V.lv g0) ?_
        refine q_iload rfl ?_
        refine q_aald (V.lv (V.nn (K := 3) (k := 3) (by decide) g0)) (V.inn (L' := 12) (by decide) (V.nn (K := 3) (k := 3) (by decide) g0) (by omega) (by omega)) ?_
        have f13 : L c 4 (x_vr h 18 (x_vr h 3 3 x0) ylp4_2.toNatClampNeg) := V.of (V.1.2.2.2.2.2.2.2.2.1 x0 ylp4_2.toNatClampNeg (V.lv g0) (by have h9 := x_clamp (n := ylp4_2) (by omega); show (_ : Int) < (x_vi h 3 7 x0).toInt; omega))
        refine v_gfi V f13 (fun v14 => ?_)
        refine q_iload rfl ?_
        refine q_calln (Nat.le_of_ble_eq_true rfl) (Nat.le_of_ble_eq_true rfl) (by rw [V.2.2.1]; decide) (by rw [V.2.2.2]; decide) ?_
        refine xC.up (tv16 (x0 := v14) (x1 := x1) V.set  (fun o16 g17 hp => ?_)) (by omega)
        obtain ⟨rfl, ⟨v19, rfl, f20⟩⟩ := hp
        show x_seq _ _ _ _ ([.inr (.inr (3, x0)), .inl x1, .inl ylp4_2], [.inl v19], h)
        refine v_if_eq (fun d21 => ?_) (fun d21 => ?_)
        · skip
          refine xR.blk c18_28 ?_
          refine v_iinc (k := 1) rfl rfl (by omega) (by have b9 := Int32.toInt_lt ylp4_2; omega) (fun v22 e23 => ?_)
          show x_seq _ _ _ _ ([.inr (.inr (3, x0)), .inl x1, .inl v22], [], h)
          refine q_goto ?_
          exact (ih5 v22  (by omega) (by omega)).up (by omega)
        · skip
          refine v_iconst (k := 1) rfl (fun v24 e25 => ?_)
          exact q_zret (i32_01 (by omega)) (hZ _ _ ⟨rfl, ⟨_, rfl, by omega⟩⟩)
  exact (lp4 13 v1  (by omega) (by omega)).up (by omega)
theorem tv19 {c : xP} {h : xH} {Z : xO → xH → Prop} {x0 : Nat} {x1 : Int32} (V : VI c 0 0 h) (g0 : L c 3 x0) (hZ : ∀ (o : xO) (g : xH), g = h ∧ (∃ v : Int32, o = .inl (some (.inl v)) ∧ 0 ≤ v.toInt ∧ v.toInt ≤ 1) → Z o g) : xC 20000002000 19 [.inr (.inr (3, x0)), .inl x1] h Z := by
  refine ⟨rfl, V.2.2.1, V.2.2.2, ?_⟩
  show xR _ 19 0 ([.inr (.inr (3, x0)), .inl x1], [], h) Z
  refine xR.blk c19_0 ?_
  refine q_aload rfl (by decide) ?_
  refine q_gfi (V.lv g0) ?_
  have e1 : 0 ≤ (x_vi h 3 7 x0).toInt ∧ (x_vi h 3 7 x0).toInt ≤ 12 := V.rg (K := 3) (k := 7) (lo := 0) (hi := 12) (by decide) g0
  refine v_iconst (k := 12) rfl (fun v2 e3 => ?_)
  refine v_icmp_ge (fun d4 => ?_) (fun d4 => ?_)
  · skip
    refine xR.blk c19_29 ?_
    refine v_iconst (k := 0) rfl (fun v5 e6 => ?_)
    refine q_goto ?_
    refine xR.blk c19_30 ?_
    exact q_zret (i32_01 (by omega)) (hZ _ _ ⟨rfl, ⟨_, rfl, by omega⟩⟩)
  · skip
    refine q_aload rfl (by decide) ?_
    refine q_iload rfl ?_
    refine q_callv rfl (by decide) (V.lv g0) (Nat.le_of_ble_eq_true rfl) (Nat.le_of_ble_eq_true rfl) (by rw [V.2.2.1]; decide) (by rw [V.2.2.2]; decide) ?_
    refine xC.up (tv17 (x0 := x0) (x1 := x1) V.set g0 (fun o7 g8 hp => ?_)) (by omega)
    obtain ⟨rfl, ⟨j10, rfl, f11⟩⟩ := hp
    show x_seq _ _ _ _ ([.inr (.inr (3, x0)), .inl x1], [.inr (.inr (4, j10))], h)
    refine q_ifnonnull (fun d12 => ?_) (fun d12 => ?_)
    · skip
      have f13 : L c 4 j10 := ⟨Nat.one_le_iff_ne_zero.mpr d12, f11⟩
      refine xR.blk c19_29 ?_
      refine v_iconst (k := 0) rfl (fun v14 e15 => ?_)
      refine q_goto ?_
      refine xR.blk c19_30 ?_
      exact q_zret (i32_01 (by omega)) (hZ _ _ ⟨rfl, ⟨_, rfl, by omega⟩⟩)
    · skip
      refine q_aload rfl (by decide) ?_
      refine q_iload rfl ?_
      refine q_callv rfl (by decide) (V.lv g0) (Nat.le_of_ble_eq_true rfl) (Nat.le_of_ble_eq_true rfl) (by rw [V.2.2.1]; decide) (by rw [V.2.2.2]; decide) ?_
      refine xC.up (tv18 (x0 := x0) (x1 := x1) V.set g0 (fun o16 g17 hp => ?_)) (by omega)
      obtain ⟨rfl, ⟨v19, rfl, f20⟩⟩ := hp
      show x_seq _ _ _ _ ([.inr (.inr (3, x0)), .inl x1], [.inl v19], h)
      refine v_if_ne (fun d21 => ?_) (fun d21 => ?_)
      · skip
        refine xR.blk c19_29 ?_
        refine v_iconst (k := 0) rfl (fun v22 e23 => ?_)
        refine q_goto ?_
        refine xR.blk c19_30 ?_
        exact q_zret (i32_01 (by omega)) (hZ _ _ ⟨rfl, ⟨_, rfl, by omega⟩⟩)
      · skip
        refine v_iconst (k := 1) rfl (fun v24 e25 => ?_)
        refine q_goto ?_
        refine xR.blk c19_30 ?_
        exact q_zret (i32_01 (by omega)) (hZ _ _ ⟨rfl, ⟨_, rfl, by omega⟩⟩)
theorem tv21 {c : xP} {h : xH} {Z : xO → xH → Prop} {x0 : Nat} {x1 : Int32} (V : VI c 0 0 h) (g0 : L c 5 x0) (hZ : ∀ (o : xO) (g : xH), g = h ∧ (∃ v : Int32, o = .inl (some (.inl v)) ∧ 0 ≤ v.toInt ∧ v.toInt ≤ 1) → Z o g) : xC 300 21 [.inr (.inr (5, x0)), .inl x1] h Z := by
  refine ⟨rfl, V.2.2.1, V.2.2.2, ?_⟩
  show xR _ 21 0 ([.inr (.inr (5, x0)), .inl x1, .inr (.inr (0, 0))], [], h) Z
  refine xR.blk c21_0 ?_
  refine v_iconst (k := 0) rfl (fun v1 e2 => ?_)
  refine q_istore (Nat.le_of_ble_eq_true rfl) ?_
  show x_seq _ _ _ _ ([.inr (.inr (5, x0)), .inl x1, .inl v1], [], h)
  refine q_goto ?_
  have lp4 : ∀ (m3 : Nat) (ylp4_2 : Int32), (0 ≤ ylp4_2.toInt ∧ ylp4_2.toInt ≤ 24) → (24 - ylp4_2.toInt).toNat < m3 → xR (10 + 6 * m3) 21 2 ([.inr (.inr (5, x0)), .inl x1, .inl ylp4_2], [], h) Z := by
    intro m3
    induction m3 with
    | zero => intro ylp4_2 klp4_2 kmlp4; exact absurd kmlp4 (by omega)
    | succ m3 ih5 =>
      intro ylp4_2 klp4_2 kmlp4
      rw [show 10 + 6 * (m3 + 1) = 10 + 6 * m3 + 6 by omega]
      refine xR.blk c21_2 ?_
      refine q_iload rfl ?_
      refine q_aload rfl (by decide) ?_
      refine q_gfi (V.lv g0) ?_
      have e8 := V.1.2.2.2.2.2.2.2.2.2 x0 (V.lv g0)
      refine v_icmp_ge (fun d9 => ?_) (fun d9 => ?_)
      · skip
        refine xR.blk c21_28 ?_
        refine v_iconst (k := 0) rfl (fun v10 e11 => ?_)
        exact q_zret (i32_01 (by omega)) (hZ _ _ ⟨rfl, ⟨_, rfl, by omega⟩⟩)
      · skip
        refine q_aload rfl (by decide) ?_
        refine q_gfr (V.lv g0) ?_
        refine q_iload rfl ?_
        refine q_ald (V.lv (V.nn (K := 5) (k := 0) (by decide) g0)) ⟨by omega, by omega⟩ ?_
        refine q_iload rfl ?_
        refine v_icmp_ne (fun d12 => ?_) (fun d12 => ?_)
        · skip
          refine xR.blk c21_22 ?_
          refine v_iinc (k := 1) rfl rfl (by omega) (by have b9 := Int32.toInt_lt ylp4_2; omega) (fun v13 e14 => ?_)
          show x_seq _ _ _ _ ([.inr (.inr (5, x0)), .inl x1, .inl v13], [], h)
          refine q_goto ?_
          exact (ih5 v13  (by omega) (by omega)).up (by omega)
        · skip
          refine v_iconst (k := 1) rfl (fun v15 e16 => ?_)
          exact q_zret (i32_01 (by omega)) (hZ _ _ ⟨rfl, ⟨_, rfl, by omega⟩⟩)
  exact (lp4 25 v1  (by omega) (by omega)).up (by omega)
theorem tv22 {c : xP} {h : xH} {Z : xO → xH → Prop} {x0 : Nat} {x1 : Int32} (V : VI c 0 0 h) (g0 : L c 3 x0) (hZ : ∀ (o : xO) (g : xH), g = h ∧ (∃ v : Int32, o = .inl (some (.inl v)) ∧ 0 ≤ v.toInt ∧ v.toInt ≤ 1) → Z o g) : xC 400 22 [.inr (.inr (3, x0)), .inl x1] h Z := by
  refine ⟨rfl, V.2.2.1, V.2.2.2, ?_⟩
  show xR _ 22 0 ([.inr (.inr (3, x0)), .inl x1, .inr (.inr (0, 0))], [], h) Z
  refine xR.blk c22_0 ?_
  refine v_iconst (k := 0) rfl (fun v1 e2 => ?_)
  refine q_istore (Nat.le_of_ble_eq_true rfl) ?_
  show x_seq _ _ _ _ ([.inr (.inr (3, x0)), .inl x1, .inl v1], [], h)
  refine q_goto ?_
  have lp4 : ∀ (m3 : Nat) (ylp4_2 : Int32), (0 ≤ ylp4_2.toInt ∧ ylp4_2.toInt ≤ 4) → (4 - ylp4_2.toInt).toNat < m3 → xR (310 + 8 * m3) 22 2 ([.inr (.inr (3, x0)), .inl x1, .inl ylp4_2], [], h) Z := by
    intro m3
    induction m3 with
    | zero => intro ylp4_2 klp4_2 kmlp4; exact absurd kmlp4 (by omega)
    | succ m3 ih5 =>
      intro ylp4_2 klp4_2 kmlp4
      rw [show 310 + 8 * (m3 + 1) = 310 + 8 * m3 + 8 by omega]
      refine xR.blk c22_2 ?_
      refine q_iload rfl ?_
      refine v_iconst (k := 4) rfl (fun v8 e9 => ?_)
      refine v_icmp_ge (fun d10 => ?_) (fun d10 => ?_)
      · skip
        refine xR.blk c22_28 ?_
        refine v_iconst (k := 0) rfl (fun v11 e12 => ?_)
        exact q_zret (i32_01 (by omega)) (hZ _ _ ⟨rfl, ⟨_, rfl, by omega⟩⟩)
      · skip
        refine q_aload rfl (by decide) ?_
        refine v_gfrn V (by decide) rfl g0 (fun j13 f14 => ?_)
        refine q_iload rfl ?_
        refine v_aaldn V (L' := 4) (by decide) (by decide) rfl f14 (by omega) (by omega) (fun j15 f16 => ?_)
        refine q_iload rfl ?_
        refine q_callv rfl (by decide) (V.lv f16) (Nat.le_of_ble_eq_true rfl) (Nat.le_of_ble_eq_true rfl) (by rw [V.2.2.1]; decide) (by rw [V.2.2.2]; decide) ?_
        refine xC.up (tv21 (x0 := j15) (x1 := x1) V.set f16 (fun o17 g18 hp => ?_)) (by omega)
        obtain ⟨rfl, ⟨v20, rfl, f21⟩⟩ := hp
        show x_seq _ _ _ _ ([.inr (.inr (3, x0)), .inl x1, .inl ylp4_2], [.inl v20], h)
        refine v_if_eq (fun d22 => ?_) (fun d22 => ?_)
        · skip
          refine xR.blk c22_22 ?_
          refine v_iinc (k := 1) rfl rfl (by omega) (by have b9 := Int32.toInt_lt ylp4_2; omega) (fun v23 e24 => ?_)
          show x_seq _ _ _ _ ([.inr (.inr (3, x0)), .inl x1, .inl v23], [], h)
          refine q_goto ?_
          exact (ih5 v23  (by omega) (by omega)).up (by omega)
        · skip
          refine v_iconst (k := 1) rfl (fun v25 e26 => ?_)
          exact q_zret (i32_01 (by omega)) (hZ _ _ ⟨rfl, ⟨_, rfl, by omega⟩⟩)
  exact (lp4 5 v1  (by omega) (by omega)).up (by omega)
theorem tv23 {c : xP} {h : xH} {Z : xO → xH → Prop} {x0 : Nat} {x1 : Int32} (V : VI c 0 0 h) (g0 : L c 5 x0) (hZ : ∀ (o : xO) (g : xH), g = h ∧ (∃ v : Int32, o = .inl (some (.inl v))) → Z o g) : xC 10 23 [.inr (.inr (5, x0)), .inl x1] h Z := by
  refine ⟨rfl, V.2.2.1, V.2.2.2, ?_⟩
  show xR _ 23 0 ([.inr (.inr (5, x0)), .inl x1], [], h) Z
  refine xR.blk c23_0 ?_
  refine q_iload rfl ?_
  refine v_if_lt (fun d1 => ?_) (fun d1 => ?_)
  · skip
    refine xR.blk c23_21 ?_
    refine v_iconst (k := -1) rfl (fun v2 e3 => ?_)
    refine q_goto ?_
    refine xR.blk c23_22 ?_
    exact q_iret (hZ _ _ ⟨rfl, ⟨_, rfl⟩⟩)
  · skip
    refine q_iload rfl ?_
    refine q_aload rfl (by decide) ?_
    refine q_gfi (V.lv g0) ?_
    have e4 := V.1.2.2.2.2.2.2.2.2.2 x0 (V.lv g0)
    refine v_icmp_ge (fun d5 => ?_) (fun d5 => ?_)
    · skip
      refine xR.blk c23_21 ?_
      refine v_iconst (k := -1) rfl (fun v6 e7 => ?_)
      refine q_goto ?_
      refine xR.blk c23_22 ?_
      exact q_iret (hZ _ _ ⟨rfl, ⟨_, rfl⟩⟩)
    · skip
      refine q_aload rfl (by decide) ?_
      refine q_gfr (V.lv g0) ?_
      refine q_iload rfl ?_
      refine q_ald (V.lv (V.nn (K := 5) (k := 0) (by decide) g0)) ⟨by omega, by omega⟩ ?_
      refine q_goto ?_
      refine xR.blk c23_22 ?_
      exact q_iret (hZ _ _ ⟨rfl, ⟨_, rfl⟩⟩)
theorem tv24 {c : xP} {h : xH} {Z : xO → xH → Prop} {x0 : Nat} (V : VI c 0 0 h) (g0 : L c 5 x0) (hZ : ∀ (o : xO) (g : xH), g = h ∧ (∃ v : Int32, o = .inl (some (.inl v)) ∧ 0 ≤ v.toInt ∧ v.toInt ≤ 24) → Z o g) : xC 10 24 [.inr (.inr (5, x0))] h Z := by
  refine ⟨rfl, V.2.2.1, V.2.2.2, ?_⟩
  show xR _ 24 0 ([.inr (.inr (5, x0))], [], h) Z
  refine xR.blk c24_0 ?_
  refine q_aload rfl (by decide) ?_
  refine q_gfi (V.lv g0) ?_
  have e1 := V.1.2.2.2.2.2.2.2.2.2 x0 (V.lv g0)
  exact q_iret (hZ _ _ ⟨rfl, ⟨_, rfl, by omega⟩⟩)
theorem tv25 {c : xP} {h : xH} {Z : xO → xH → Prop} {x0 : Int32} {x1 : Int32} {x2 : Int32} (V : VI c 0 0 h)  (hZ : ∀ (o : xO) (g : xH), g = h ∧ (∃ v : Int32, o = .inl (some (.inl v)) ∧ (0 ≤ v.toInt ∧ v.toInt ≤ 1 ∧ (v.toInt = 1 ↔ x1.toInt ≤ x0.toInt ∧ x0.toInt ≤ x2.toInt))) → Z o g) : xC 10 25 [.inl x0, .inl x1, .inl x2] h Z := by
  refine ⟨rfl, V.2.2.1, V.2.2.2, ?_⟩
  show xR _ 25 0 ([.inl x0, .inl x1, .inl x2], [], h) Z
  refine xR.blk c25_0 ?_
  refine q_iload rfl ?_
  refine q_iload rfl ?_
  refine v_icmp_lt (fun d1 => ?_) (fun d1 => ?_)
  · skip
    refine xR.blk c25_14 ?_
    refine v_iconst (k := 0) rfl (fun v2 e3 => ?_)
    refine q_goto ?_
    refine xR.blk c25_15 ?_
    exact q_zret (i32_01 (by omega)) (hZ _ _ ⟨rfl, ⟨_, rfl, by omega⟩⟩)
  · skip
    refine q_iload rfl ?_
    refine q_iload rfl ?_
    refine v_icmp_gt (fun d4 => ?_) (fun d4 => ?_)
    · skip
      refine xR.blk c25_14 ?_
      refine v_iconst (k := 0) rfl (fun v5 e6 => ?_)
      refine q_goto ?_
      refine xR.blk c25_15 ?_
      exact q_zret (i32_01 (by omega)) (hZ _ _ ⟨rfl, ⟨_, rfl, by omega⟩⟩)
    · skip
      refine v_iconst (k := 1) rfl (fun v7 e8 => ?_)
      refine q_goto ?_
      refine xR.blk c25_15 ?_
      exact q_zret (i32_01 (by omega)) (hZ _ _ ⟨rfl, ⟨_, rfl, by omega⟩⟩)
theorem tv26 {c : xP} {h : xH} {Z : xO → xH → Prop} {x0 : Int32} (V : VI c 0 0 h)  (hZ : ∀ (o : xO) (g : xH), g = h ∧ (∃ v : Int32, o = .inl (some (.inl v)) ∧ (0 ≤ v.toInt ∧ v.toInt ≤ 1 ∧ (v.toInt = 1 ↔ 0 ≤ x0.toInt ∧ x0.toInt ≤ 23))) → Z o g) : xC 20 26 [.inl x0] h Z := by
  refine ⟨rfl, V.2.2.1, V.2.2.2, ?_⟩
  show xR _ 26 0 ([.inl x0], [], h) Z
  refine xR.blk c26_0 ?_
  refine q_iload rfl ?_
  refine v_iconst (k := 0) rfl (fun v1 e2 => ?_)
  refine v_iconst (k := 23) rfl (fun v3 e4 => ?_)
  refine q_call (Nat.le_of_ble_eq_true rfl) (Nat.le_of_ble_eq_true rfl) (by rw [V.2.2.1]; decide) (by rw [V.2.2.2]; decide) ?_
  refine xC.up (tv25 (x0 := x0) (x1 := v1) (x2 := v3) V.set  (fun o5 g6 hp => ?_)) (by omega)
  obtain ⟨rfl, ⟨v8, rfl, f9⟩⟩ := hp
  show x_seq _ _ _ _ ([.inl x0], [.inl v8], h)
  exact q_zret (i32_01 (by omega)) (hZ _ _ ⟨rfl, ⟨_, rfl, by omega⟩⟩)
theorem tv27 {c : xP} {h : xH} {Z : xO → xH → Prop} {x0 : Nat} {x1 : Nat} {x2 : Int32} (V : VI c 0 0 h) (g0 : L c 3 x0) (g1 : L c 5 x1) (g2 : 0 ≤ x2.toInt ∧ x2.toInt ≤ 23) (hZ : ∀ (o : xO) (g : xH), g = h ∧ (∃ v : Int32, o = .inl (some (.inl v)) ∧ 0 ≤ v.toInt ∧ v.toInt ≤ 23) → Z o g) : xC 300 27 [.inr (.inr (3, x0)), .inr (.inr (5, x1)), .inl x2] h Z := by
  refine ⟨rfl, V.2.2.1, V.2.2.2, ?_⟩
  show xR _ 27 0 ([.inr (.inr (3, x0)), .inr (.inr (5, x1)), .inl x2, .inr (.inr (0, 0)), .inr (.inr (0, 0))], [], h) Z
  refine xR.blk c27_0 ?_
  refine v_iconst (k := 0) rfl (fun v1 e2 => ?_)
  refine q_istore (Nat.le_of_ble_eq_true rfl) ?_
  show x_seq _ _ _ _ ([.inr (.inr (3, x0)), .inr (.inr (5, x1)), .inl x2, .inl v1, .inr (.inr (0, 0))], [], h)
  refine q_goto ?_
  have lp4 : ∀ (m3 : Nat) (ylp4_3 : Int32) (zlp4_4 : xV), (0 ≤ ylp4_3.toInt ∧ ylp4_3.toInt ≤ 24) → (24 - ylp4_3.toInt).toNat < m3 → xR (30 + 8 * m3) 27 2 ([.inr (.inr (3, x0)), .inr (.inr (5, x1)), .inl x2, .inl ylp4_3, zlp4_4], [], h) Z := by
    intro m3
    induction m3 with
    | zero => intro ylp4_3 zlp4_4 klp4_3 kmlp4; exact absurd kmlp4 (by omega)
    | succ m3 ih5 =>
      intro ylp4_3 zlp4_4 klp4_3 kmlp4
      rw [show 30 + 8 * (m3 + 1) = 30 + 8 * m3 + 8 by omega]
      refine xR.blk c27_2 ?_
      refine q_iload rfl ?_
      refine q_aload rfl (by decide) ?_
      refine q_callv rfl (by decide) (V.lv g1) (Nat.le_of_ble_eq_true rfl) (Nat.le_of_ble_eq_true rfl) (by rw [V.2.2.1]; decide) (by rw [V.2.2.2]; decide) ?_
      refine xC.up (tv24 (x0 := x1) V.set g1 (fun o8 g9 hp => ?_)) (by omega)
      obtain ⟨rfl, ⟨v11, rfl, f12⟩⟩ := hp
      show x_seq _ _ _ _ ([.inr (.inr (3, x0)), .inr (.inr (5, x1)), .inl x2, .inl ylp4_3, zlp4_4], [.inl v11, .inl ylp4_3], h)
      refine v_icmp_ge (fun d13 => ?_) (fun d13 => ?_)
      · skip
        refine xR.blk c27_47 ?_
        refine q_iload rfl ?_
        exact q_iret (hZ _ _ ⟨rfl, ⟨_, rfl, by omega⟩⟩)
      · skip
        refine q_aload rfl (by decide) ?_
        refine q_iload rfl ?_
        refine q_callv rfl (by decide) (V.lv g1) (Nat.le_of_ble_eq_true rfl) (Nat.le_of_ble_eq_true rfl) (by rw [V.2.2.1]; decide) (by rw [V.2.2.2]; decide) ?_
        refine xC.up (tv23 (x0 := x1) (x1 := ylp4_3) V.set g1 (fun o14 g15 hp => ?_)) (by omega)
        obtain ⟨rfl, ⟨v17, rfl⟩⟩ := hp
        show x_seq _ _ _ _ ([.inr (.inr (3, x0)), .inr (.inr (5, x1)), .inl x2, .inl ylp4_3, zlp4_4], [.inl v17], h)
        refine q_istore (Nat.le_of_ble_eq_true rfl) ?_
        show x_seq _ _ _ _ ([.inr (.inr (3, x0)), .inr (.inr (5, x1)), .inl x2, .inl ylp4_3, .inl v17], [], h)
        refine q_iload rfl ?_
        refine q_calln (Nat.le_of_ble_eq_true rfl) (Nat.le_of_ble_eq_true rfl) (by rw [V.2.2.1]; decide) (by rw [V.2.2.2]; decide) ?_
        refine xC.up (tv26 (x0 := v17) V.set  (fun o19 g20 hp => ?_)) (by omega)
        obtain ⟨rfl, ⟨v22, rfl, f23⟩⟩ := hp
        show x_seq _ _ _ _ ([.inr (.inr (3, x0)), .inr (.inr (5, x1)), .inl x2, .inl ylp4_3, .inl v17], [.inl v22], h)
        refine v_if_eq (fun d24 => ?_) (fun d24 => ?_)
        · skip
          refine xR.blk c27_41 ?_
          refine v_iinc (k := 1) rfl rfl (by omega) (by have b9 := Int32.toInt_lt ylp4_3; omega) (fun v25 e26 => ?_)
          show x_seq _ _ _ _ ([.inr (.inr (3, x0)), .inr (.inr (5, x1)), .inl x2, .inl v25, .inl v17], [], h)
          refine q_goto ?_
          exact (ih5 v25 (.inl v17)  (by omega) (by omega)).up (by omega)
        · skip
          refine q_aload rfl (by decide) ?_
          refine v_gfrn V (by decide) rfl g0 (fun j27 f28 => ?_)
          refine q_iload rfl ?_
          refine v_aaldn V (L' := 24) (by decide) (by decide) rfl f28 (by omega) (by omega) (fun j29 f30 => ?_)
          refine q_callv rfl (by decide) (V.lv f30) (Nat.le_of_ble_eq_true rfl) (Nat.le_of_ble_eq_true rfl) (by rw [V.2.2.1]; decide) (by rw [V.2.2.2]; decide) ?_
          refine xC.up (tv11 (x0 := j29) V.set f30 (fun o31 g32 hp => ?_)) (by omega)
          obtain ⟨rfl, ⟨v34, rfl, f35⟩⟩ := hp
          show x_seq _ _ _ _ ([.inr (.inr (3, x0)), .inr (.inr (5, x1)), .inl x2, .inl ylp4_3, .inl v17], [.inl v34], h)
          refine v_if_eq (fun d36 => ?_) (fun d36 => ?_)
          · skip
            refine xR.blk c27_41 ?_
            refine v_iinc (k := 1) rfl rfl (by omega) (by have b9 := Int32.toInt_lt ylp4_3; omega) (fun v37 e38 => ?_)
            show x_seq _ _ _ _ ([.inr (.inr (3, x0)), .inr (.inr (5, x1)), .inl x2, .inl v37, .inl v17], [], h)
            refine q_goto ?_
            exact (ih5 v37 (.inl v17)  (by omega) (by omega)).up (by omega)
          · skip
            refine q_iload rfl ?_
            exact q_iret (hZ _ _ ⟨rfl, ⟨_, rfl, by omega⟩⟩)
  exact (lp4 25 v1 (.inr (.inr (0, 0)))  (by omega) (by omega)).up (by omega)
theorem tv28 {c : xP} {h : xH} {Z : xO → xH → Prop} {x0 : Nat} {x1 : Int32} (V : VI c 0 0 h) (g0 : L c 3 x0) (g1 : 0 ≤ x1.toInt ∧ x1.toInt ≤ 23) (hZ : ∀ (o : xO) (g : xH), g = h ∧ (∃ v : Int32, o = .inl (some (.inl v)) ∧ 0 ≤ v.toInt ∧ v.toInt ≤ 23) → Z o g) : xC 400 28 [.inr (.inr (3, x0)), .inl x1] h Z := by
  refine ⟨rfl, V.2.2.1, V.2.2.2, ?_⟩
  show xR _ 28 0 ([.inr (.inr (3, x0)), .inl x1, .inr (.inr (0, 0))], [], h) Z
  refine xR.blk c28_0 ?_
  refine v_iconst (k := 0) rfl (fun v1 e2 => ?_)
  refine q_istore (Nat.le_of_ble_eq_true rfl) ?_
  show x_seq _ _ _ _ ([.inr (.inr (3, x0)), .inl x1, .inl v1], [], h)
  refine q_goto ?_
  have lp4 : ∀ (m3 : Nat) (ylp4_2 : Int32), (0 ≤ ylp4_2.toInt ∧ ylp4_2.toInt ≤ 4) → (4 - ylp4_2.toInt).toNat < m3 → xR (310 + 8 * m3) 28 2 ([.inr (.inr (3, x0)), .inl x1, .inl ylp4_2], [], h) Z := by
    intro m3
    induction m3 with
    | zero => intro ylp4_2 klp4_2 kmlp4; exact absurd kmlp4 (by omega)
    | succ m3 ih5 =>
      intro ylp4_2 klp4_2 kmlp4
      rw [show 310 + 8 * (m3 + 1) = 310 + 8 * m3 + 8 by omega]
      refine xR.blk c28_2 ?_
      refine q_iload rfl ?_
      refine v_iconst (k := 4) rfl (fun v8 e9 => ?_)
      refine v_icmp_ge (fun d10 => ?_) (fun d10 => ?_)
      · skip
        refine xR.blk c28_39 ?_
        refine q_iload rfl ?_
        exact q_iret (hZ _ _ ⟨rfl, ⟨_, rfl, by omega⟩⟩)
      · skip
        refine q_aload rfl (by decide) ?_
        refine v_gfrn V (by decide) rfl g0 (fun j11 f12 => ?_)
        refine q_iload rfl ?_
        refine v_aaldn V (L' := 4) (by decide) (by decide) rfl f12 (by omega) (by omega) (fun j13 f14 => ?_)
        refine v_iconst (k := 0) rfl (fun v15 e16 => ?_)
        refine q_callv rfl (by decide) (V.lv f14) (Nat.le_of_ble_eq_true rfl) (Nat.le_of_ble_eq_true rfl) (by rw [V.2.2.1]; decide) (by rw [V.2.2.2]; decide) ?_
        refine xC.up (tv23 (x0 := j13) (x1 := v15) V.set f14 (fun o17 g18 hp => ?_)) (by omega)
        obtain ⟨rfl, ⟨v20, rfl⟩⟩ := hp
        show x_seq _ _ _ _ ([.inr (.inr (3, x0)), .inl x1, .inl ylp4_2], [.inl v20], h)
        refine q_iload rfl ?_
        refine v_icmp_ne (fun d22 => ?_) (fun d22 => ?_)
        · skip
          refine xR.blk c28_33 ?_
          refine v_iinc (k := 1) rfl rfl (by omega) (by have b9 := Int32.toInt_lt ylp4_2; omega) (fun v23 e24 => ?_)
          show x_seq _ _ _ _ ([.inr (.inr (3, x0)), .inl x1, .inl v23], [], h)
          refine q_goto ?_
          exact (ih5 v23  (by omega) (by omega)).up (by omega)
        · skip
          refine q_aload rfl (by decide) ?_
          refine q_aload rfl (by decide) ?_
          refine v_gfrn V (by decide) rfl g0 (fun j25 f26 => ?_)
          refine q_iload rfl ?_
          refine v_aaldn V (L' := 4) (by decide) (by decide) rfl f26 (by omega) (by omega) (fun j27 f28 => ?_)
          refine q_iload rfl ?_
          refine q_callv rfl (by decide) (V.lv g0) (Nat.le_of_ble_eq_true rfl) (Nat.le_of_ble_eq_true rfl) (by rw [V.2.2.1]; decide) (by rw [V.2.2.2]; decide) ?_
          refine xC.up (tv27 (x0 := x0) (x1 := j27) (x2 := x1) V.set g0 f28 (by omega) (fun o29 g30 hp => ?_)) (by omega)
          obtain ⟨rfl, ⟨v32, rfl, f33⟩⟩ := hp
          show x_seq _ _ _ _ ([.inr (.inr (3, x0)), .inl x1, .inl ylp4_2], [.inl v32], h)
          exact q_iret (hZ _ _ ⟨rfl, ⟨_, rfl, by omega⟩⟩)
  exact (lp4 5 v1  (by omega) (by omega)).up (by omega)
theorem tv29 {c : xP} {h : xH} {Z : xO → xH → Prop} {x0 : Nat} {x1 : Int32} {x2 : Int32} (V : VI c 0 0 h) (g0 : L c 3 x0) (g1 : 0 ≤ x1.toInt ∧ x1.toInt ≤ 33) (g2 : 0 ≤ x2.toInt ∧ x2.toInt ≤ 33) (hZ : ∀ (o : xO) (g : xH), g = h ∧ (∃ v : Int32, o = .inl (some (.inl v)) ∧ -1 ≤ v.toInt ∧ v.toInt ≤ 32) → Z o g) : xC 400 29 [.inr (.inr (3, x0)), .inl x1, .inl x2] h Z := by
  refine ⟨rfl, V.2.2.1, V.2.2.2, ?_⟩
  show xR _ 29 0 ([.inr (.inr (3, x0)), .inl x1, .inl x2, .inr (.inr (0, 0))], [], h) Z
  refine xR.blk c29_0 ?_
  refine q_iload rfl ?_
  refine q_istore (Nat.le_of_ble_eq_true rfl) ?_
  show x_seq _ _ _ _ ([.inr (.inr (3, x0)), .inl x1, .inl x2, .inl x1], [], h)
  refine q_goto ?_
  have lp2 : ∀ (m1 : Nat) (ylp2_3 : Int32), (0 ≤ ylp2_3.toInt ∧ ylp2_3.toInt ≤ 33) → (33 - ylp2_3.toInt).toNat < m1 → xR (10 + 8 * m1) 29 2 ([.inr (.inr (3, x0)), .inl x1, .inl x2, .inl ylp2_3], [], h) Z := by
    intro m1
    induction m1 with
    | zero => intro ylp2_3 klp2_3 kmlp2; exact absurd kmlp2 (by omega)
    | succ m1 ih3 =>
      intro ylp2_3 klp2_3 kmlp2
      rw [show 10 + 8 * (m1 + 1) = 10 + 8 * m1 + 8 by omega]
      refine xR.blk c29_2 ?_
      refine q_iload rfl ?_
      refine q_iload rfl ?_
      refine v_icmp_ge (fun d6 => ?_) (fun d6 => ?_)
      · skip
        refine xR.blk c29_24 ?_
        refine v_iconst (k := -1) rfl (fun v7 e8 => ?_)
        exact q_iret (hZ _ _ ⟨rfl, ⟨_, rfl, by omega⟩⟩)
      · skip
        refine q_aload rfl (by decide) ?_
        refine v_gfrn V (by decide) rfl g0 (fun j9 f10 => ?_)
        refine q_iload rfl ?_
        refine v_aald17 V f10 (by omega) (by omega) (fun j11 f12 => ?_)
        refine q_ifnonnull (fun d13 => ?_) (fun d13 => ?_)
        · skip
          have f14 : L c 1 j11 := ⟨Nat.one_le_iff_ne_zero.mpr d13, f12⟩
          refine xR.blk c29_18 ?_
          refine v_iinc (k := 1) rfl rfl (by omega) (by have b9 := Int32.toInt_lt ylp2_3; omega) (fun v15 e16 => ?_)
          show x_seq _ _ _ _ ([.inr (.inr (3, x0)), .inl x1, .inl x2, .inl v15], [], h)
          refine q_goto ?_
          exact (ih3 v15  (by omega) (by omega)).up (by omega)
        · skip
          refine q_iload rfl ?_
          exact q_iret (hZ _ _ ⟨rfl, ⟨_, rfl, by omega⟩⟩)
  exact (lp2 34 x1  (by omega) (by omega)).up (by omega)
theorem tv30 {c : xP} {h : xH} {Z : xO → xH → Prop} {x0 : Nat} {x1 : Int32} {x2 : Int32} (V : VI c 0 0 h) (g0 : L c 3 x0) (g1 : 0 ≤ x1.toInt ∧ x1.toInt ≤ 33) (g2 : 0 ≤ x2.toInt ∧ x2.toInt ≤ 33) (hZ : ∀ (o : xO) (g : xH), g = h ∧ (∃ v : Int32, o = .inl (some (.inl v))) → Z o g) : xC 400 30 [.inr (.inr (3, x0)), .inl x1, .inl x2] h Z := by
  refine ⟨rfl, V.2.2.1, V.2.2.2, ?_⟩
  show xR _ 30 0 ([.inr (.inr (3, x0)), .inl x1, .inl x2, .inr (.inr (0, 0)), .inr (.inr (0, 0))], [], h) Z
  refine xR.blk c30_0 ?_
  refine v_iconst (k := 0) rfl (fun v1 e2 => ?_)
  refine q_istore (Nat.le_of_ble_eq_true rfl) ?_
  show x_seq _ _ _ _ ([.inr (.inr (3, x0)), .inl x1, .inl x2, .inl v1, .inr (.inr (0, 0))], [], h)
  refine q_iload rfl ?_
  refine q_istore (Nat.le_of_ble_eq_true rfl) ?_
  show x_seq _ _ _ _ ([.inr (.inr (3, x0)), .inl x1, .inl x2, .inl v1, .inl x1], [], h)
  refine q_goto ?_
  have lp4 : ∀ (m3 : Nat) (ylp4_3 : Int32) (ylp4_4 : Int32), (0 ≤ ylp4_4.toInt ∧ ylp4_4.toInt ≤ 33) → (33 - ylp4_4.toInt).toNat < m3 → xR (10 + 8 * m3) 30 5 ([.inr (.inr (3, x0)), .inl x1, .inl x2, .inl ylp4_3, .inl ylp4_4], [], h) Z := by
    intro m3
    induction m3 with
    | zero => intro ylp4_3 ylp4_4 klp4_4 kmlp4; exact absurd kmlp4 (by omega)
    | succ m3 ih5 =>
      intro ylp4_3 ylp4_4 klp4_4 kmlp4
      rw [show 10 + 8 * (m3 + 1) = 10 + 8 * m3 + 8 by omega]
      refine xR.blk c30_5 ?_
      refine q_iload rfl ?_
      refine q_iload rfl ?_
      refine v_icmp_ge (fun d8 => ?_) (fun d8 => ?_)
      · skip
        refine xR.blk c30_30 ?_
        refine q_iload rfl ?_
        exact q_iret (hZ _ _ ⟨rfl, ⟨_, rfl⟩⟩)
      · skip
        refine q_aload rfl (by decide) ?_
        refine v_gfrn V (by decide) rfl g0 (fun j9 f10 => ?_)
        refine q_iload rfl ?_
        refine v_aald17 V f10 (by omega) (by omega) (fun j11 f12 => ?_)
        refine q_ifnonnull (fun d13 => ?_) (fun d13 => ?_)
        · skip
          have f14 : L c 1 j11 := ⟨Nat.one_le_iff_ne_zero.mpr d13, f12⟩
          refine xR.blk c30_24 ?_
          refine v_iinc (k := 1) rfl rfl (by omega) (by have b9 := Int32.toInt_lt ylp4_4; omega) (fun v15 e16 => ?_)
          show x_seq _ _ _ _ ([.inr (.inr (3, x0)), .inl x1, .inl x2, .inl ylp4_3, .inl v15], [], h)
          refine q_goto ?_
          exact (ih5 ylp4_3 v15  (by omega) (by omega)).up (by omega)
        · skip
          refine v_iincf rfl (fun v17 => ?_)
          show x_seq _ _ _ _ ([.inr (.inr (3, x0)), .inl x1, .inl x2, .inl v17, .inl ylp4_4], [], h)
          refine q_goto ?_
          refine xR.blk c30_24 ?_
          refine v_iinc (k := 1) rfl rfl (by omega) (by have b9 := Int32.toInt_lt ylp4_4; omega) (fun v19 e20 => ?_)
          show x_seq _ _ _ _ ([.inr (.inr (3, x0)), .inl x1, .inl x2, .inl v17, .inl v19], [], h)
          refine q_goto ?_
          exact (ih5 v17 v19  (by omega) (by omega)).up (by omega)
  exact (lp4 34 v1 x1  (by omega) (by omega)).up (by omega)
theorem tv31 {c : xP} {h : xH} {Z : xO → xH → Prop} {x0 : Nat} {x1 : Nat} {x2 : Int32} {x3 : Int32} (V : VI c 0 0 h) (g0 : L c 3 x0) (g1 : L c 2 x1) (g2 : 0 ≤ x2.toInt ∧ x2.toInt ≤ 4) (hZ : ∀ (o : xO) (g : xH), g = h ∧ (∃ v : Int32, o = .inl (some (.inl v)) ∧ -1 ≤ v.toInt ∧ v.toInt ≤ 11) → Z o g) : xC 300 31 [.inr (.inr (3, x0)), .inr (.inr (2, x1)), .inl x2, .inl x3] h Z := by
  refine ⟨rfl, V.2.2.1, V.2.2.2, ?_⟩
  show xR _ 31 0 ([.inr (.inr (3, x0)), .inr (.inr (2, x1)), .inl x2, .inl x3, .inr (.inr (0, 0)), .inr (.inr (0, 0))], [], h) Z
  refine xR.blk c31_0 ?_
  refine q_iload rfl ?_
  refine q_istore (Nat.le_of_ble_eq_true rfl) ?_
  show x_seq _ _ _ _ ([.inr (.inr (3, x0)), .inr (.inr (2, x1)), .inl x2, .inl x3, .inl x2, .inr (.inr (0, 0))], [], h)
  refine q_goto ?_
  have lp2 : ∀ (m1 : Nat) (ylp2_4 : Int32) (zlp2_5 : xV), (0 ≤ ylp2_4.toInt ∧ ylp2_4.toInt ≤ 4) → (4 - ylp2_4.toInt).toNat < m1 → xR (30 + 8 * m1) 31 3 ([.inr (.inr (3, x0)), .inr (.inr (2, x1)), .inl x2, .inl x3, .inl ylp2_4, zlp2_5], [], h) Z := by
    intro m1
    induction m1 with
    | zero => intro ylp2_4 zlp2_5 klp2_4 kmlp2; exact absurd kmlp2 (by omega)
    | succ m1 ih3 =>
      intro ylp2_4 zlp2_5 klp2_4 kmlp2
      rw [show 30 + 8 * (m1 + 1) = 30 + 8 * m1 + 8 by omega]
      refine xR.blk c31_3 ?_
      refine q_iload rfl ?_
      refine v_iconst (k := 4) rfl (fun v6 e7 => ?_)
      refine v_icmp_ge (fun d8 => ?_) (fun d8 => ?_)
      · skip
        refine xR.blk c31_50 ?_
        refine v_iconst (k := -1) rfl (fun v9 e10 => ?_)
        exact q_iret (hZ _ _ ⟨rfl, ⟨_, rfl, by omega⟩⟩)
      · skip
        refine q_aload rfl (by decide) ?_
        refine q_callv rfl (by decide) (V.lv g1) (Nat.le_of_ble_eq_true rfl) (Nat.le_of_ble_eq_true rfl) (by rw [V.2.2.1]; decide) (by rw [V.2.2.2]; decide) ?_
        refine xC.up (tv10 (x0 := x1) V.set g1 (fun o11 g12 hp => ?_)) (by omega)
        obtain ⟨rfl, ⟨v14, rfl, f15⟩⟩ := hp
        show x_seq _ _ _ _ ([.inr (.inr (3, x0)), .inr (.inr (2, x1)), .inl x2, .inl x3, .inl ylp2_4, zlp2_5], [.inl v14], h)
        refine q_aload rfl (by decide) ?_
        refine v_gfir V (lo := 0) (hi := 3) (by decide) g0 (fun v16 e17 => ?_)
        refine q_iload rfl ?_
        refine v_iadd (by have b8 := Int32.toInt_lt v16; have b9 := Int32.toInt_lt ylp2_4; omega) (fun v18 e19 => ?_)
        refine v_iconst (k := 4) rfl (fun v20 e21 => ?_)
        refine v_irem e21 (by decide) (by omega) (fun v22 e23 => ?_)
        refine v_iadd (by have b8 := Int32.toInt_lt v14; have b9 := Int32.toInt_lt v22; omega) (fun v24 e25 => ?_)
        refine q_istore (Nat.le_of_ble_eq_true rfl) ?_
        show x_seq _ _ _ _ ([.inr (.inr (3, x0)), .inr (.inr (2, x1)), .inl x2, .inl x3, .inl ylp2_4, .inl v24], [], h)
        refine q_iload rfl ?_
        refine q_iload rfl ?_
        refine v_icmp_eq (fun d26 => ?_) (fun d26 => ?_)
        · skip
          refine xR.blk c31_44 ?_
          refine v_iinc (k := 1) rfl rfl (by omega) (by have b9 := Int32.toInt_lt ylp2_4; omega) (fun v27 e28 => ?_)
          show x_seq _ _ _ _ ([.inr (.inr (3, x0)), .inr (.inr (2, x1)), .inl x2, .inl x3, .inl v27, .inl v24], [], h)
          refine q_goto ?_
          exact (ih3 v27 (.inl v24)  (by omega) (by omega)).up (by omega)
        · skip
          refine q_aload rfl (by decide) ?_
          refine v_gfrn V (by decide) rfl g0 (fun j29 f30 => ?_)
          refine q_iload rfl ?_
          refine v_aald17 V f30 (by omega) (by omega) (fun j31 f32 => ?_)
          refine q_ifnonnull (fun d33 => ?_) (fun d33 => ?_)
          · skip
            have f34 : L c 1 j31 := ⟨Nat.one_le_iff_ne_zero.mpr d33, f32⟩
            refine xR.blk c31_44 ?_
            refine v_iinc (k := 1) rfl rfl (by omega) (by have b9 := Int32.toInt_lt ylp2_4; omega) (fun v35 e36 => ?_)
            show x_seq _ _ _ _ ([.inr (.inr (3, x0)), .inr (.inr (2, x1)), .inl x2, .inl x3, .inl v35, .inl v24], [], h)
            refine q_goto ?_
            exact (ih3 v35 (.inl v24)  (by omega) (by omega)).up (by omega)
          · skip
            refine q_iload rfl ?_
            exact q_iret (hZ _ _ ⟨rfl, ⟨_, rfl, by omega⟩⟩)
  exact (lp2 5 x2 (.inr (.inr (0, 0)))  (by omega) (by omega)).up (by omega)
theorem tv33 {c : xP} {h : xH} {Z : xO → xH → Prop} {x0 : Nat} {x1 : Int32} (V : VI c 0 0 h) (g0 : L c 4 x0) (hZ : ∀ (o : xO) (g : xH), g = h ∧ (∃ v : Int32, o = .inl (some (.inl v)) ∧ 0 ≤ v.toInt ∧ v.toInt ≤ 1) → Z o g) : xC 320 33 [.inr (.inr (4, x0)), .inl x1] h Z := by
  refine ⟨rfl, V.2.2.1, V.2.2.2, ?_⟩
  show xR _ 33 0 ([.inr (.inr (4, x0)), .inl x1], [], h) Z
  refine xR.blk c33_0 ?_
  refine q_aload rfl (by decide) ?_
  refine v_gfi V g0 (fun v1 => ?_)
  refine v_if_ne (fun d3 => ?_) (fun d3 => ?_)
  · skip
    refine xR.blk c33_33 ?_
    refine v_iconst (k := 0) rfl (fun v4 e5 => ?_)
    refine q_goto ?_
    refine xR.blk c33_34 ?_
    exact q_zret (i32_01 (by omega)) (hZ _ _ ⟨rfl, ⟨_, rfl, by omega⟩⟩)
  · skip
    refine q_aload rfl (by decide) ?_
    refine v_gfrn V (by decide) rfl g0 (fun j6 f7 => ?_)
    refine q_callv rfl (by decide) (V.lv f7) (Nat.le_of_ble_eq_true rfl) (Nat.le_of_ble_eq_true rfl) (by rw [V.2.2.1]; decide) (by rw [V.2.2.2]; decide) ?_
    refine xC.up (tv24 (x0 := j6) V.set f7 (fun o8 g9 hp => ?_)) (by omega)
    obtain ⟨rfl, ⟨v11, rfl, f12⟩⟩ := hp
    show x_seq _ _ _ _ ([.inr (.inr (4, x0)), .inl x1], [.inl v11], h)
    refine v_iconst (k := 3) rfl (fun v13 e14 => ?_)
    refine v_icmp_ge (fun d15 => ?_) (fun d15 => ?_)
    · skip
      refine xR.blk c33_33 ?_
      refine v_iconst (k := 0) rfl (fun v16 e17 => ?_)
      refine q_goto ?_
      refine xR.blk c33_34 ?_
      exact q_zret (i32_01 (by omega)) (hZ _ _ ⟨rfl, ⟨_, rfl, by omega⟩⟩)
    · skip
      refine q_aload rfl (by decide) ?_
      refine v_gfrn V (by decide) rfl g0 (fun j18 f19 => ?_)
      refine q_iload rfl ?_
      refine q_callv rfl (by decide) (V.lv f19) (Nat.le_of_ble_eq_true rfl) (Nat.le_of_ble_eq_true rfl) (by rw [V.2.2.1]; decide) (by rw [V.2.2.2]; decide) ?_
      refine xC.up (tv21 (x0 := j18) (x1 := x1) V.set f19 (fun o20 g21 hp => ?_)) (by omega)
      obtain ⟨rfl, ⟨v23, rfl, f24⟩⟩ := hp
      show x_seq _ _ _ _ ([.inr (.inr (4, x0)), .inl x1], [.inl v23], h)
      refine v_if_ne (fun d25 => ?_) (fun d25 => ?_)
      · skip
        refine xR.blk c33_33 ?_
        refine v_iconst (k := 0) rfl (fun v26 e27 => ?_)
        refine q_goto ?_
        refine xR.blk c33_34 ?_
        exact q_zret (i32_01 (by omega)) (hZ _ _ ⟨rfl, ⟨_, rfl, by omega⟩⟩)
      · skip
        refine v_iconst (k := 1) rfl (fun v28 e29 => ?_)
        refine q_goto ?_
        refine xR.blk c33_34 ?_
        exact q_zret (i32_01 (by omega)) (hZ _ _ ⟨rfl, ⟨_, rfl, by omega⟩⟩)
theorem tv34 {c : xP} {h : xH} {Z : xO → xH → Prop} {x0 : Int32} (V : VI c 0 0 h)  (hZ : ∀ (o : xO) (g : xH), g = h ∧ (∃ v : Int32, o = .inl (some (.inl v))) → Z o g) : xC 20000000000 34 [.inl x0] h Z := by
  refine ⟨rfl, V.2.2.1, V.2.2.2, ?_⟩
  show xR _ 34 0 ([.inl x0, .inr (.inr (0, 0)), .inr (.inr (0, 0))], [], h) Z
  refine xR.blk c34_0 ?_
  refine v_iconst (k := 0) rfl (fun v1 e2 => ?_)
  refine q_istore (Nat.le_of_ble_eq_true rfl) ?_
  show x_seq _ _ _ _ ([.inl x0, .inl v1, .inr (.inr (0, 0))], [], h)
  refine q_iload rfl ?_
  refine q_istore (Nat.le_of_ble_eq_true rfl) ?_
  show x_seq _ _ _ _ ([.inl x0, .inl v1, .inl x0], [], h)
  refine q_goto ?_
  have lp4 : ∀ (m3 : Nat) (ylp4_1 : Int32) (ylp4_2 : Int32), (ylp4_2.toInt).toNat < m3 → xR (10 + 8 * m3) 34 4 ([.inl x0, .inl ylp4_1, .inl ylp4_2], [], h) Z := by
    intro m3
    induction m3 with
    | zero => intro ylp4_1 ylp4_2 kmlp4; exact absurd kmlp4 (by omega)
    | succ m3 ih5 =>
      intro ylp4_1 ylp4_2 kmlp4
      rw [show 10 + 8 * (m3 + 1) = 10 + 8 * m3 + 8 by omega]
      refine xR.blk c34_4 ?_
      refine q_iload rfl ?_
      refine v_iconst (k := 10) rfl (fun v8 e9 => ?_)
      refine v_icmp_lt (fun d10 => ?_) (fun d10 => ?_)
      · skip
        refine xR.blk c34_21 ?_
        refine q_iload rfl ?_
        exact q_iret (hZ _ _ ⟨rfl, ⟨_, rfl⟩⟩)
      · skip
        refine v_iincf rfl (fun v11 => ?_)
        show x_seq _ _ _ _ ([.inl x0, .inl v11, .inl ylp4_2], [], h)
        refine q_iload rfl ?_
        refine v_iconst (k := 10) rfl (fun v13 e14 => ?_)
        refine v_idiv e14 (by decide) (by omega) (fun v15 e16 => ?_)
        refine q_istore (Nat.le_of_ble_eq_true rfl) ?_
        show x_seq _ _ _ _ ([.inl x0, .inl v11, .inl v15], [], h)
        refine q_goto ?_
        exact (ih5 v11 v15   (by omega)).up (by omega)
  exact (lp4 2147483649 v1 x0   (by have b9 := Int32.toInt_lt x0; omega)).up (by omega)
theorem tv35 {c : xP} {h : xH} {Z : xO → xH → Prop} {x0 : Nat} {x1 : Int32} (V : VI c 0 0 h) (g0 : L c 4 x0) (hZ : ∀ (o : xO) (g : xH), g = h ∧ (∃ v : Int32, o = .inl (some (.inl v))) → Z o g) : xC 20000000020 35 [.inr (.inr (4, x0)), .inl x1] h Z := by
  refine ⟨rfl, V.2.2.1, V.2.2.2, ?_⟩
  show xR _ 35 0 ([.inr (.inr (4, x0)), .inl x1], [], h) Z
  refine xR.blk c35_0 ?_
  refine q_iload rfl ?_
  refine q_calln (Nat.le_of_ble_eq_true rfl) (Nat.le_of_ble_eq_true rfl) (by rw [V.2.2.1]; decide) (by rw [V.2.2.2]; decide) ?_
  refine xC.up (tv34 (x0 := x1) V.set  (fun o1 g2 hp => ?_)) (by omega)
  obtain ⟨rfl, ⟨v4, rfl⟩⟩ := hp
  show x_seq _ _ _ _ ([.inr (.inr (4, x0)), .inl x1], [.inl v4], h)
  refine q_aload rfl (by decide) ?_
  refine v_gfi V g0 (fun v6 => ?_)
  refine q_calln (Nat.le_of_ble_eq_true rfl) (Nat.le_of_ble_eq_true rfl) (by rw [V.2.2.1]; decide) (by rw [V.2.2.2]; decide) ?_
  refine xC.up (tv34 (x0 := v6) V.set  (fun o8 g9 hp => ?_)) (by omega)
  obtain ⟨rfl, ⟨v11, rfl⟩⟩ := hp
  show x_seq _ _ _ _ ([.inr (.inr (4, x0)), .inl x1], [.inl v11, .inl v4], h)
  refine v_bin (fun v13 => ?_)
  exact q_iret (hZ _ _ ⟨rfl, ⟨_, rfl⟩⟩)
theorem tv36 {c : xP} {h : xH} {Z : xO → xH → Prop} {x0 : Nat} {x1 : Int32} (V : VI c 0 0 h) (g0 : L c 4 x0) (hZ : ∀ (o : xO) (g : xH), g = h ∧ (∃ v : Int32, o = .inl (some (.inl v))) → Z o g) : xC 20000000100 36 [.inr (.inr (4, x0)), .inl x1] h Z := by
  refine ⟨rfl, V.2.2.1, V.2.2.2, ?_⟩
  show xR _ 36 0 ([.inr (.inr (4, x0)), .inl x1, .inr (.inr (0, 0)), .inr (.inr (0, 0))], [], h) Z
  refine xR.blk c36_0 ?_
  refine q_iload rfl ?_
  refine q_istore (Nat.le_of_ble_eq_true rfl) ?_
  show x_seq _ _ _ _ ([.inr (.inr (4, x0)), .inl x1, .inl x1, .inr (.inr (0, 0))], [], h)
  refine q_aload rfl (by decide) ?_
  refine q_iload rfl ?_
  refine q_callv rfl (by decide) (V.lv g0) (Nat.le_of_ble_eq_true rfl) (Nat.le_of_ble_eq_true rfl) (by rw [V.2.2.1]; decide) (by rw [V.2.2.2]; decide) ?_
  refine xC.up (tv35 (x0 := x0) (x1 := x1) V.set g0 (fun o1 g2 hp => ?_)) (by omega)
  obtain ⟨rfl, ⟨v4, rfl⟩⟩ := hp
  show x_seq _ _ _ _ ([.inr (.inr (4, x0)), .inl x1, .inl x1, .inr (.inr (0, 0))], [.inl v4], h)
  refine q_istore (Nat.le_of_ble_eq_true rfl) ?_
  show x_seq _ _ _ _ ([.inr (.inr (4, x0)), .inl x1, .inl x1, .inl v4], [], h)
  refine q_goto ?_
  have lp7 : ∀ (m6 : Nat) (ylp7_2 : Int32) (ylp7_3 : Int32), (ylp7_3.toInt).toNat < m6 → xR (10 + 8 * m6) 36 8 ([.inr (.inr (4, x0)), .inl x1, .inl ylp7_2, .inl ylp7_3], [], h) Z := by
    intro m6
    induction m6 with
    | zero => intro ylp7_2 ylp7_3 kmlp7; exact absurd kmlp7 (by omega)
    | succ m6 ih8 =>
      intro ylp7_2 ylp7_3 kmlp7
      rw [show 10 + 8 * (m6 + 1) = 10 + 8 * m6 + 8 by omega]
      refine xR.blk c36_8 ?_
      refine q_iload rfl ?_
      refine v_iconst (k := 2) rfl (fun v11 e12 => ?_)
      refine v_icmp_le (fun d13 => ?_) (fun d13 => ?_)
      · skip
        refine xR.blk c36_24 ?_
        refine q_iload rfl ?_
        refine v_iconst (k := 100) rfl (fun v14 e15 => ?_)
        refine v_iremf (by omega) (fun v16 => ?_)
        exact q_iret (hZ _ _ ⟨rfl, ⟨_, rfl⟩⟩)
      · skip
        refine q_iload rfl ?_
        refine v_iconst (k := 10) rfl (fun v18 e19 => ?_)
        refine v_idivf (by omega) (fun v20 => ?_)
        refine q_istore (Nat.le_of_ble_eq_true rfl) ?_
        show x_seq _ _ _ _ ([.inr (.inr (4, x0)), .inl x1, .inl v20, .inl ylp7_3], [], h)
        refine v_iinc (k := -1) rfl rfl (by omega) (by have b9 := Int32.toInt_lt ylp7_3; omega) (fun v22 e23 => ?_)
        show x_seq _ _ _ _ ([.inr (.inr (4, x0)), .inl x1, .inl v20, .inl v22], [], h)
        refine q_goto ?_
        exact (ih8 v20 v22   (by omega)).up (by omega)
  exact (lp7 2147483649 x1 v4   (by have b9 := Int32.toInt_lt v4; omega)).up (by omega)
theorem tv41 {c : xP} {h : xH} {Z : xO → xH → Prop} {x0 : Nat} (V : VI c 0 0 h) (g0 : L c 6 x0) (hZ : ∀ (o : xO) (g : xH), g = h ∧ (∃ v : Int32, o = .inl (some (.inl v)) ∧ 0 ≤ v.toInt ∧ v.toInt ≤ 1) → Z o g) : xC 10 41 [.inr (.inr (6, x0))] h Z := by
  refine ⟨rfl, V.2.2.1, V.2.2.2, ?_⟩
  show xR _ 41 0 ([.inr (.inr (6, x0))], [], h) Z
  refine xR.blk c41_0 ?_
  refine q_aload rfl (by decide) ?_
  refine v_gfir V (lo := 0) (hi := 1) (by decide) g0 (fun v1 e2 => ?_)
  refine v_if_ne (fun d3 => ?_) (fun d3 => ?_)
  · skip
    refine xR.blk c41_18 ?_
    refine v_iconst (k := 0) rfl (fun v4 e5 => ?_)
    refine q_goto ?_
    refine xR.blk c41_19 ?_
    exact q_zret (i32_01 (by omega)) (hZ _ _ ⟨rfl, ⟨_, rfl, by omega⟩⟩)
  · skip
    refine q_aload rfl (by decide) ?_
    refine q_gfr (V.lv g0) ?_
    refine q_ifnonnull (fun d6 => ?_) (fun d6 => ?_)
    · skip
      have f7 : L c 1 (x_vr h 6 3 x0) := ⟨Nat.one_le_iff_ne_zero.mpr d6, (V.nu (K := 6) (k := 3) (by decide) g0)⟩
      refine xR.blk c41_18 ?_
      refine v_iconst (k := 0) rfl (fun v8 e9 => ?_)
      refine q_goto ?_
      refine xR.blk c41_19 ?_
      exact q_zret (i32_01 (by omega)) (hZ _ _ ⟨rfl, ⟨_, rfl, by omega⟩⟩)
    · skip
      refine v_iconst (k := 1) rfl (fun v10 e11 => ?_)
      refine q_goto ?_
      refine xR.blk c41_19 ?_
      exact q_zret (i32_01 (by omega)) (hZ _ _ ⟨rfl, ⟨_, rfl, by omega⟩⟩)
theorem tv42 {c : xP} {h : xH} {Z : xO → xH → Prop} {x0 : Nat} {x1 : Int32} (V : VI c 0 0 h) (g0 : L c 6 x0) (hZ : ∀ (o : xO) (g : xH), g = h ∧ (∃ v : Int32, o = .inl (some (.inl v)) ∧ 0 ≤ v.toInt ∧ v.toInt ≤ 1) → Z o g) : xC 10 42 [.inr (.inr (6, x0)), .inl x1] h Z := by
  refine ⟨rfl, V.2.2.1, V.2.2.2, ?_⟩
  show xR _ 42 0 ([.inr (.inr (6, x0)), .inl x1], [], h) Z
  refine xR.blk c42_0 ?_
  refine q_aload rfl (by decide) ?_
  refine v_gfi V g0 (fun v1 => ?_)
  refine q_iload rfl ?_
  refine v_icmp_eq (fun d3 => ?_) (fun d3 => ?_)
  · skip
    refine xR.blk c42_16 ?_
    refine v_iconst (k := 1) rfl (fun v4 e5 => ?_)
    refine q_goto ?_
    refine xR.blk c42_21 ?_
    exact q_zret (i32_01 (by omega)) (hZ _ _ ⟨rfl, ⟨_, rfl, by omega⟩⟩)
  · skip
    refine q_aload rfl (by decide) ?_
    refine v_gfi V g0 (fun v6 => ?_)
    refine q_iload rfl ?_
    refine v_icmp_ne (fun d8 => ?_) (fun d8 => ?_)
    · skip
      refine xR.blk c42_20 ?_
      refine v_iconst (k := 0) rfl (fun v9 e10 => ?_)
      refine q_goto ?_
      refine xR.blk c42_21 ?_
      exact q_zret (i32_01 (by omega)) (hZ _ _ ⟨rfl, ⟨_, rfl, by omega⟩⟩)
    · skip
      refine q_goto ?_
      refine xR.blk c42_16 ?_
      refine v_iconst (k := 1) rfl (fun v11 e12 => ?_)
      refine q_goto ?_
      refine xR.blk c42_21 ?_
      exact q_zret (i32_01 (by omega)) (hZ _ _ ⟨rfl, ⟨_, rfl, by omega⟩⟩)
theorem tv44 {c : xP} {h : xH} {Z : xO → xH → Prop} {x0 : Int32} (V : VI c 0 0 h)  (hZ : ∀ (o : xO) (g : xH), g = h ∧ (∃ v : Int32, o = .inl (some (.inl v)) ∧ (0 ≤ v.toInt ∧ v.toInt ≤ 1 ∧ (v.toInt = 1 ↔ 0 ≤ x0.toInt ∧ x0.toInt ≤ 2))) → Z o g) : xC 20 44 [.inl x0] h Z := by
  refine ⟨rfl, V.2.2.1, V.2.2.2, ?_⟩
  show xR _ 44 0 ([.inl x0], [], h) Z
  refine xR.blk c44_0 ?_
  refine q_iload rfl ?_
  refine v_iconst (k := 0) rfl (fun v1 e2 => ?_)
  refine v_iconst (k := 2) rfl (fun v3 e4 => ?_)
  refine q_call (Nat.le_of_ble_eq_true rfl) (Nat.le_of_ble_eq_true rfl) (by rw [V.2.2.1]; decide) (by rw [V.2.2.2]; decide) ?_
  refine xC.up (tv25 (x0 := x0) (x1 := v1) (x2 := v3) V.set  (fun o5 g6 hp => ?_)) (by omega)
  obtain ⟨rfl, ⟨v8, rfl, f9⟩⟩ := hp
  show x_seq _ _ _ _ ([.inl x0], [.inl v8], h)
  exact q_zret (i32_01 (by omega)) (hZ _ _ ⟨rfl, ⟨_, rfl, by omega⟩⟩)
theorem tv45 {c : xP} {h : xH} {Z : xO → xH → Prop} {x0 : Int32} (V : VI c 0 0 h)  (hZ : ∀ (o : xO) (g : xH), (g = h ∧ (o = .inl none ∧ (x0.toInt ≠ 0))) ∨ ((CI g ∧ x_pj g = c) ∧ ∃ k, o = .inr k) → Z o g) : xC 10 45 [.inl x0] h Z := by
  refine ⟨rfl, V.2.2.1, V.2.2.2, ?_⟩
  show xR _ 45 0 ([.inl x0], [], h) Z
  refine xR.blk c45_0 ?_
  refine q_iload rfl ?_
  refine v_if_ne (fun d1 => ?_) (fun d1 => ?_)
  · skip
    refine xR.blk c45_12 ?_
    exact q_ret (hZ _ _ (Or.inl ⟨rfl, ⟨rfl, by omega⟩⟩))
  · skip
    exact q_throw (Nat.le_of_ble_eq_true rfl) (by rw [V.2.2.1]; decide) (by rw [V.2.2.2]; decide) (fun d => hZ _ _ (Or.inr ⟨V.exc, _, rfl⟩))
theorem tv46 {c : xP} {h : xH} {Z : xO → xH → Prop} {x0 : Int32} (V : VI c 0 0 h)  (hZ : ∀ (o : xO) (g : xH), (g = h ∧ (o = .inl none ∧ (x0.toInt ≠ 0))) ∨ ((CI g ∧ x_pj g = c) ∧ ∃ k, o = .inr k) → Z o g) : xC 10 46 [.inl x0] h Z := by
  refine ⟨rfl, V.2.2.1, V.2.2.2, ?_⟩
  show xR _ 46 0 ([.inl x0], [], h) Z
  refine xR.blk c46_0 ?_
  refine q_iload rfl ?_
  refine v_if_ne (fun d1 => ?_) (fun d1 => ?_)
  · skip
    refine xR.blk c46_12 ?_
    exact q_ret (hZ _ _ (Or.inl ⟨rfl, ⟨rfl, by omega⟩⟩))
  · skip
    exact q_throw (Nat.le_of_ble_eq_true rfl) (by rw [V.2.2.1]; decide) (by rw [V.2.2.2]; decide) (fun d => hZ _ _ (Or.inr ⟨V.exc, _, rfl⟩))
