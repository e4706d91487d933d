/-! ROUTE -/
theorem rt142 {c : xP} {h : xH} {Z : xO → xH → Prop} {x0 x6 x7 : Nat} {x1 x2 x3 x4 x5 : Int32} {a b : Nat} (V : VI c a b h) (ha : a ≤ 7) (hb : b ≤ 55) (g7 : L c 4 x7) (hZ : ∀ (o : xO) (g : xH), (CI g ∧ x_pj g = c) ∧ (∃ v : Int32, o = .inl (some (.inl v))) → Z o g) : xR 500 49 142 ([.inr (.inr (7, x0)), .inl x1, .inl x2, .inl x3, .inl x4, .inl x5, .inr (.inr (3, x6)), .inr (.inr (4, x7))], [], h) Z := by
  refine xR.blk c49_142 ?_
  refine q_aload rfl (by decide) ?_
  refine v_gfi V g7 (fun v1 => ?_)
  refine v_if_ne (fun d3 => ?_) (fun d3 => ?_)
  · skip
    refine xR.blk c49_159 ?_
    refine q_aload rfl (by decide) ?_
    refine q_iload rfl ?_
    refine v_pfi V rfl (fun lo hi hm => by simp only [x_rgl, List.mem_cons, Prod.mk.injEq, List.not_mem_nil, or_false] at hm; omega) rfl g7 (fun h4 V5 => ?_)
    refine q_aload rfl (by decide) ?_
    refine q_iload rfl ?_
    refine v_pfi V5 rfl (fun lo hi hm => by simp only [x_rgl, List.mem_cons, Prod.mk.injEq, List.not_mem_nil, or_false] at hm; omega) rfl g7 (fun h6 V7 => ?_)
    refine q_aload rfl (by decide) ?_
    refine v_gfrn V7 (by decide) rfl g7 (fun j8 f9 => ?_)
    refine q_callv rfl (by decide) (V7.lv f9) (Nat.le_of_ble_eq_true rfl) (Nat.le_of_ble_eq_true rfl) (by rw [V7.2.2.1]; omega) (by rw [V7.2.2.2]; omega) ?_
    refine xC.up (tv24 (x0 := j8) V7.set f9 (fun o10 g11 hp => ?_)) (by omega)
    obtain ⟨rfl, ⟨v13, rfl, f14⟩⟩ := hp
    show x_seq _ _ _ _ ([.inr (.inr (7, x0)), .inl x1, .inl x2, .inl x3, .inl x4, .inl x5, .inr (.inr (3, x6)), .inr (.inr (4, x7))], [.inl v13], h6)
    exact q_iret (hZ _ _ ⟨⟨V7.1, V7.2.1⟩, ⟨_, rfl⟩⟩)
  · skip
    refine q_aload rfl (by decide) ?_
    refine v_gfrn V (by decide) rfl g7 (fun j15 f16 => ?_)
    refine q_iload rfl ?_
    refine q_callv rfl (by decide) (V.lv f16) (Nat.le_of_ble_eq_true rfl) (Nat.le_of_ble_eq_true rfl) (by rw [V.2.2.1]; omega) (by rw [V.2.2.2]; omega) ?_
    refine xC.up (tv37 (x0 := j15) (x1 := x3) V.set f16 (fun o17 g18 hp => ?_)) (by omega)
    obtain ⟨hg19, rfl⟩ := hp
    have V22 := VI.after (mc := 0) (ms := 0) V hg19
    show x_seq _ _ _ _ ([.inr (.inr (7, x0)), .inl x1, .inl x2, .inl x3, .inl x4, .inl x5, .inr (.inr (3, x6)), .inr (.inr (4, x7))], [], x_setc g18 (x_ce h + 0) (x_so h + 0))
    generalize x_setc g18 (x_ce h + 0) (x_so h + 0) = h23 at V22 ⊢
    refine q_goto ?_
    refine xR.blk c49_159 ?_
    refine q_aload rfl (by decide) ?_
    refine q_iload rfl ?_
    refine v_pfi V22 rfl (fun lo hi hm => by simp only [x_rgl, List.mem_cons, Prod.mk.injEq, List.not_mem_nil, or_false] at hm; omega) rfl g7 (fun h24 V25 => ?_)
    refine q_aload rfl (by decide) ?_
    refine q_iload rfl ?_
    refine v_pfi V25 rfl (fun lo hi hm => by simp only [x_rgl, List.mem_cons, Prod.mk.injEq, List.not_mem_nil, or_false] at hm; omega) rfl g7 (fun h26 V27 => ?_)
    refine q_aload rfl (by decide) ?_
    refine v_gfrn V27 (by decide) rfl g7 (fun j28 f29 => ?_)
    refine q_callv rfl (by decide) (V27.lv f29) (Nat.le_of_ble_eq_true rfl) (Nat.le_of_ble_eq_true rfl) (by rw [V27.2.2.1]; omega) (by rw [V27.2.2.2]; omega) ?_
    refine xC.up (tv24 (x0 := j28) V27.set f29 (fun o30 g31 hp => ?_)) (by omega)
    obtain ⟨rfl, ⟨v33, rfl, f34⟩⟩ := hp
    show x_seq _ _ _ _ ([.inr (.inr (7, x0)), .inl x1, .inl x2, .inl x3, .inl x4, .inl x5, .inr (.inr (3, x6)), .inr (.inr (4, x7))], [.inl v33], h26)
    exact q_iret (hZ _ _ ⟨⟨V27.1, V27.2.1⟩, ⟨_, rfl⟩⟩)
theorem rt_mid {c : xP} {a b n : Nat} {h : xH} {Z : xO → xH → Prop} {x0 x6 : Nat} {x1 x2 x3 x4 x5 : Int32} {w : xV} (hn : 700 ≤ n) (V : VI c a b h) (ha : a + 3 ≤ 7) (hb : b + 31 ≤ 55) (g6 : L c 3 x6) (hZ : ∀ (o : xO) (g : xH), (CI g ∧ x_mq g = x_mq h) ∧ (∃ v : Int32, o = .inl (some (.inl v))) → Z o g) :
    x_seq [(93, x_newo 4 5 7 55), (94, x_dup), (95, x_iload 2), (96, x_iload 3), (97, x_iload 1), (100, x_icmp (fun x y => ¬ x = y) 104), (101, x_iconst 1), (104, x_goto 105)] (xC n) Z (fun pc' S' => xR n 49 pc' S' Z)
      ([.inr (.inr (7, x0)), .inl x1, .inl x2, .inl x3, .inl x4, .inl x5, .inr (.inr (3, x6)), w], [], h) := by
  have hJ : ∀ (z : Int32), 0 ≤ z.toInt ∧ z.toInt ≤ 1 → xR 650 49 105 ([.inr (.inr (7, x0)), .inl x1, .inl x2, .inl x3, .inl x4, .inl x5, .inr (.inr (3, x6)), w], [.inl z, .inl x2, .inr (.inr (4, x_cn h 4 + 1)), .inr (.inr (4, x_cn h 4 + 1))], x_new h 4 5) Z := by
    intro z hz
    refine xR.blk c49_105 ?_
    refine q_calli rfl (by decide) (by omega) (by decide) (Nat.le_of_ble_eq_true rfl) (Nat.le_of_ble_eq_true rfl) (by show x_ce h + 1 + 2 ≤ 7; rw [V.2.2.1]; omega) (by show x_so h + 5 + 26 ≤ 55; rw [V.2.2.2]; omega) ?_
    refine xC.up (tv32 (h := h) (x1 := x2) (x2 := z) hz (fun g hg => ?_)) (by omega)
    obtain ⟨a', b', rfl⟩ := hg
    have V2 : VI (x_pj (rt_h h x2 z)) (a + 3) (b + 31) (x_setc (x_setc (rt_h h x2 z) a' b') (x_ce (x_new h 4 5) + 2) (x_so (x_new h 4 5) + 26)) := ⟨rt_CI V.1, rfl, by show x_ce h + 1 + 2 = _; rw [V.2.2.1], by show x_so h + 5 + 26 = _; rw [V.2.2.2]⟩
    have g62 : L (x_pj (rt_h h x2 z)) 3 x6 := ⟨g6.1, by show x6 ≤ x_cn (rt_h h x2 z) 3; rw [rt_cn, V.cn]; exact Nat.le_trans g6.2 (Nat.le_add_right _ _)⟩
    have g72 : L (x_pj (rt_h h x2 z)) 4 (x_cn h 4 + 1) := ⟨by omega, by show _ ≤ x_cn (rt_h h x2 z) 4; rw [rt_cn]; simp⟩
    refine q_astore (Nat.le_of_ble_eq_true rfl) (q_aload rfl (by decide) (q_aload rfl (by decide) (q_callv rfl (by decide) (V2.lv g62) (Nat.le_of_ble_eq_true rfl) (Nat.le_of_ble_eq_true rfl) (by rw [V2.2.2.1]; omega) (by rw [V2.2.2.2]; omega) ?_)))
    refine xC.up (tv20 (x0 := x6) (x1 := x_cn h 4 + 1) V2.set g62 g72 (fun o g hp => ?_)) (by omega)
    obtain ⟨hg, rfl⟩ := hp
    have V3 := VI.after (mc := 0) (ms := 0) V2 hg
    refine q_goto ?_
    refine (rt142 (x0 := x0) (x6 := x6) (x7 := x_cn h 4 + 1) (x1 := x1) (x2 := x2) (x3 := x3) (x4 := x4) (x5 := x5) V3 (by omega) (by omega) g72 (fun o g hp => hZ _ _ ⟨⟨hp.1.1, ?_⟩, hp.2⟩)).up (by omega)
    exact (x_mq_of hp.1.2).trans rt_mq
  refine q_newo (by rw [V.2.2.1]; omega) (by rw [V.2.2.2]; omega) (q_dup rfl (q_iload rfl (q_iload rfl (q_iload rfl (q_icmp (fun d => ?_) (fun d => ?_))))))
  · exact xR.up (xR.blk c49_104 (q_iconst (q_goto (hJ 0 (by decide))))) (by omega)
  · exact q_iconst (q_goto (xR.up (hJ 1 (by decide)) (by omega)))
theorem rt57 {c : xP} {h : xH} {Z : xO → xH → Prop} {x0 : Nat} {x1 x2 x3 x4 x5 z : Int32} (V : VI c 1 6 h) (g0 : L c 7 x0) (g1 : 0 ≤ x1.toInt ∧ x1.toInt ≤ 2) (gz : 0 ≤ z.toInt ∧ z.toInt ≤ 1) (hZ : ∀ (o : xO) (g : xH), ((CI g ∧ x_mq g = x_mq h) ∧ (∃ v : Int32, o = .inl (some (.inl v)))) ∨ ((CI g ∧ x_pj g = c) ∧ ∃ k, o = .inr k) → Z o g) : xR 20000005000 49 57 ([.inr (.inr (7, x0)), .inl x1, .inl x2, .inl x3, .inl x4, .inl x5, .inr (.inr (0, 0)), .inr (.inr (0, 0))], [.inl z], h) Z := by
  refine xR.blk c49_57 ?_
  refine q_call (Nat.le_of_ble_eq_true rfl) (Nat.le_of_ble_eq_true rfl) (by rw [V.2.2.1]; decide) (by rw [V.2.2.2]; decide) ?_
  refine xC.up (tv45 (x0 := z) V.set  (fun o1 g2 hp => ?_)) (by omega)
  rcases hp with ⟨rfl, rfl, f5⟩ | ⟨hg3, k9, rfl⟩
  · skip
    have V6 : VI c 2 12 (x_setc (x_setc h 0 0) (x_ce h + 1) (x_so h + 6)) := VI.after (mc := 1) (ms := 6) V ⟨V.1, V.2.1⟩
    show x_seq _ _ _ _ ([.inr (.inr (7, x0)), .inl x1, .inl x2, .inl x3, .inl x4, .inl x5, .inr (.inr (0, 0)), .inr (.inr (0, 0))], [], (x_setc (x_setc h 0 0) (x_ce h + 1) (x_so h + 6)))
    refine q_aload rfl (by decide) ?_
    refine v_gfrn V6 (by decide) rfl g0 (fun j7 f8 => ?_)
    refine q_iload rfl ?_
    refine v_aaldn V6 (L' := 3) (by decide) (by decide) rfl f8 (by omega) (by omega) (fun j9 f10 => ?_)
    refine q_astore (Nat.le_of_ble_eq_true rfl) ?_
    show x_seq _ _ _ _ ([.inr (.inr (7, x0)), .inl x1, .inl x2, .inl x3, .inl x4, .inl x5, .inr (.inr (3, j9)), .inr (.inr (0, 0))], [], (x_setc (x_setc h 0 0) (x_ce h + 1) (x_so h + 6)))
    refine q_aload rfl (by decide) ?_
    refine q_iload rfl ?_
    refine q_callv rfl (by decide) (V6.lv f10) (Nat.le_of_ble_eq_true rfl) (Nat.le_of_ble_eq_true rfl) (by rw [V6.2.2.1]; decide) (by rw [V6.2.2.2]; decide) ?_
    refine xC.up (tv15 (x0 := j9) (x1 := x2) V6.set f10 (fun o11 g12 hp => ?_)) (by omega)
    obtain ⟨rfl, ⟨j14, rfl, f15⟩⟩ := hp
    show x_seq _ _ _ _ ([.inr (.inr (7, x0)), .inl x1, .inl x2, .inl x3, .inl x4, .inl x5, .inr (.inr (3, j9)), .inr (.inr (0, 0))], [.inr (.inr (4, j14))], (x_setc (x_setc h 0 0) (x_ce h + 1) (x_so h + 6)))
    refine q_astore (Nat.le_of_ble_eq_true rfl) ?_
    show x_seq _ _ _ _ ([.inr (.inr (7, x0)), .inl x1, .inl x2, .inl x3, .inl x4, .inl x5, .inr (.inr (3, j9)), .inr (.inr (4, j14))], [], (x_setc (x_setc h 0 0) (x_ce h + 1) (x_so h + 6)))
    refine q_aload rfl (by decide) ?_
    refine q_ifnonnull (fun d16 => ?_) (fun d16 => ?_)
    · skip
      have f17 : L c 4 j14 := ⟨Nat.one_le_iff_ne_zero.mpr d16, f15⟩
      refine xR.blk c49_120 ?_
      refine q_iload rfl ?_
      refine q_iload rfl ?_
      refine v_icmp_eq (fun d18 => ?_) (fun d18 => ?_)
      · skip
        refine xR.blk c49_138 ?_
        refine v_iconst (k := 0) rfl (fun v19 e20 => ?_)
        refine q_goto ?_
        refine xR.blk c49_139 ?_
        refine q_call (Nat.le_of_ble_eq_true rfl) (Nat.le_of_ble_eq_true rfl) (by rw [V6.2.2.1]; decide) (by rw [V6.2.2.2]; decide) ?_
        refine xC.up (tv46 (x0 := v19) V6.set  (fun o21 g22 hp => ?_)) (by omega)
        rcases hp with ⟨rfl, rfl, f25⟩ | ⟨hg23, k9, rfl⟩
        · skip
          have V26 : VI c 3 18 (x_setc (x_setc (x_setc (x_setc h 0 0) (x_ce h + 1) (x_so h + 6)) 0 0) (x_ce (x_setc (x_setc h 0 0) (x_ce h + 1) (x_so h + 6)) + 1) (x_so (x_setc (x_setc h 0 0) (x_ce h + 1) (x_so h + 6)) + 6)) := VI.after (mc := 1) (ms := 6) V6 ⟨V6.1, V6.2.1⟩
          show x_seq _ _ _ _ ([.inr (.inr (7, x0)), .inl x1, .inl x2, .inl x3, .inl x4, .inl x5, .inr (.inr (3, j9)), .inr (.inr (4, j14))], [], (x_setc (x_setc (x_setc (x_setc h 0 0) (x_ce h + 1) (x_so h + 6)) 0 0) (x_ce (x_setc (x_setc h 0 0) (x_ce h + 1) (x_so h + 6)) + 1) (x_so (x_setc (x_setc h 0 0) (x_ce h + 1) (x_so h + 6)) + 6)))
          refine q_goto ?_
          exact (rt142 V26 (by decide) (by decide) f17 (fun o g hp => hZ _ _ (Or.inl ⟨⟨hp.1.1, x_mq_of (hp.1.2.trans V.2.1.symm)⟩, hp.2⟩))).up (by omega)
        · exact hZ _ _ (Or.inr ⟨hg23, k9, rfl⟩)
      · skip
        refine q_aload rfl (by decide) ?_
        refine q_iload rfl ?_
        refine q_callv rfl (by decide) (V6.lv f17) (Nat.le_of_ble_eq_true rfl) (Nat.le_of_ble_eq_true rfl) (by rw [V6.2.2.1]; decide) (by rw [V6.2.2.2]; decide) ?_
        refine xC.up (tv33 (x0 := j14) (x1 := x3) V6.set f17 (fun o27 g28 hp => ?_)) (by omega)
        obtain ⟨rfl, ⟨v30, rfl, f31⟩⟩ := hp
        show x_seq _ _ _ _ ([.inr (.inr (7, x0)), .inl x1, .inl x2, .inl x3, .inl x4, .inl x5, .inr (.inr (3, j9)), .inr (.inr (4, j14))], [.inl v30], (x_setc (x_setc h 0 0) (x_ce h + 1) (x_so h + 6)))
        refine v_if_eq (fun d32 => ?_) (fun d32 => ?_)
        · skip
          refine xR.blk c49_138 ?_
          refine v_iconst (k := 0) rfl (fun v33 e34 => ?_)
          refine q_goto ?_
          refine xR.blk c49_139 ?_
          refine q_call (Nat.le_of_ble_eq_true rfl) (Nat.le_of_ble_eq_true rfl) (by rw [V6.2.2.1]; decide) (by rw [V6.2.2.2]; decide) ?_
          refine xC.up (tv46 (x0 := v33) V6.set  (fun o35 g36 hp => ?_)) (by omega)
          rcases hp with ⟨rfl, rfl, f39⟩ | ⟨hg37, k9, rfl⟩
          · skip
            have V40 : VI c 3 18 (x_setc (x_setc (x_setc (x_setc h 0 0) (x_ce h + 1) (x_so h + 6)) 0 0) (x_ce (x_setc (x_setc h 0 0) (x_ce h + 1) (x_so h + 6)) + 1) (x_so (x_setc (x_setc h 0 0) (x_ce h + 1) (x_so h + 6)) + 6)) := VI.after (mc := 1) (ms := 6) V6 ⟨V6.1, V6.2.1⟩
            show x_seq _ _ _ _ ([.inr (.inr (7, x0)), .inl x1, .inl x2, .inl x3, .inl x4, .inl x5, .inr (.inr (3, j9)), .inr (.inr (4, j14))], [], (x_setc (x_setc (x_setc (x_setc h 0 0) (x_ce h + 1) (x_so h + 6)) 0 0) (x_ce (x_setc (x_setc h 0 0) (x_ce h + 1) (x_so h + 6)) + 1) (x_so (x_setc (x_setc h 0 0) (x_ce h + 1) (x_so h + 6)) + 6)))
            refine q_goto ?_
            exact (rt142 V40 (by decide) (by decide) f17 (fun o g hp => hZ _ _ (Or.inl ⟨⟨hp.1.1, x_mq_of (hp.1.2.trans V.2.1.symm)⟩, hp.2⟩))).up (by omega)
          · exact hZ _ _ (Or.inr ⟨hg37, k9, rfl⟩)
        · skip
          refine v_iconst (k := 1) rfl (fun v41 e42 => ?_)
          refine q_goto ?_
          refine xR.blk c49_139 ?_
          refine q_call (Nat.le_of_ble_eq_true rfl) (Nat.le_of_ble_eq_true rfl) (by rw [V6.2.2.1]; decide) (by rw [V6.2.2.2]; decide) ?_
          refine xC.up (tv46 (x0 := v41) V6.set  (fun o43 g44 hp => ?_)) (by omega)
          rcases hp with ⟨rfl, rfl, f47⟩ | ⟨hg45, k9, rfl⟩
          · skip
            have V48 : VI c 3 18 (x_setc (x_setc (x_setc (x_setc h 0 0) (x_ce h + 1) (x_so h + 6)) 0 0) (x_ce (x_setc (x_setc h 0 0) (x_ce h + 1) (x_so h + 6)) + 1) (x_so (x_setc (x_setc h 0 0) (x_ce h + 1) (x_so h + 6)) + 6)) := VI.after (mc := 1) (ms := 6) V6 ⟨V6.1, V6.2.1⟩
            show x_seq _ _ _ _ ([.inr (.inr (7, x0)), .inl x1, .inl x2, .inl x3, .inl x4, .inl x5, .inr (.inr (3, j9)), .inr (.inr (4, j14))], [], (x_setc (x_setc (x_setc (x_setc h 0 0) (x_ce h + 1) (x_so h + 6)) 0 0) (x_ce (x_setc (x_setc h 0 0) (x_ce h + 1) (x_so h + 6)) + 1) (x_so (x_setc (x_setc h 0 0) (x_ce h + 1) (x_so h + 6)) + 6)))
            refine q_goto ?_
            exact (rt142 V48 (by decide) (by decide) f17 (fun o g hp => hZ _ _ (Or.inl ⟨⟨hp.1.1, x_mq_of (hp.1.2.trans V.2.1.symm)⟩, hp.2⟩))).up (by omega)
          · exact hZ _ _ (Or.inr ⟨hg45, k9, rfl⟩)
    · skip
      refine q_aload rfl (by decide) ?_
      refine q_iload rfl ?_
      refine q_callv rfl (by decide) (V6.lv f10) (Nat.le_of_ble_eq_true rfl) (Nat.le_of_ble_eq_true rfl) (by rw [V6.2.2.1]; decide) (by rw [V6.2.2.2]; decide) ?_
      refine xC.up (tv19 (x0 := j9) (x1 := x2) V6.set f10 (fun o49 g50 hp => ?_)) (by omega)
      obtain ⟨rfl, ⟨v52, rfl, f53⟩⟩ := hp
      show x_seq _ _ _ _ ([.inr (.inr (7, x0)), .inl x1, .inl x2, .inl x3, .inl x4, .inl x5, .inr (.inr (3, j9)), .inr (.inr (4, j14))], [.inl v52], (x_setc (x_setc h 0 0) (x_ce h + 1) (x_so h + 6)))
      refine q_call (Nat.le_of_ble_eq_true rfl) (Nat.le_of_ble_eq_true rfl) (by rw [V6.2.2.1]; decide) (by rw [V6.2.2.2]; decide) ?_
      refine xC.up (tv46 (x0 := v52) V6.set  (fun o54 g55 hp => ?_)) (by omega)
      rcases hp with ⟨rfl, rfl, f58⟩ | ⟨hg56, k9, rfl⟩
      · skip
        have V59 : VI c 3 18 (x_setc (x_setc (x_setc (x_setc h 0 0) (x_ce h + 1) (x_so h + 6)) 0 0) (x_ce (x_setc (x_setc h 0 0) (x_ce h + 1) (x_so h + 6)) + 1) (x_so (x_setc (x_setc h 0 0) (x_ce h + 1) (x_so h + 6)) + 6)) := VI.after (mc := 1) (ms := 6) V6 ⟨V6.1, V6.2.1⟩
        show x_seq _ _ _ _ ([.inr (.inr (7, x0)), .inl x1, .inl x2, .inl x3, .inl x4, .inl x5, .inr (.inr (3, j9)), .inr (.inr (4, j14))], [], (x_setc (x_setc (x_setc (x_setc h 0 0) (x_ce h + 1) (x_so h + 6)) 0 0) (x_ce (x_setc (x_setc h 0 0) (x_ce h + 1) (x_so h + 6)) + 1) (x_so (x_setc (x_setc h 0 0) (x_ce h + 1) (x_so h + 6)) + 6)))
        exact rt_mid (by omega) V59 (by decide) (by decide) f10 (fun o g hp => hZ _ _ (Or.inl hp))
      · exact hZ _ _ (Or.inr ⟨hg56, k9, rfl⟩)
  · exact hZ _ _ (Or.inr ⟨hg3, k9, rfl⟩)
theorem rt26 {c : xP} {h : xH} {Z : xO → xH → Prop} {x0 : Nat} {x1 x2 x3 x4 x5 z : Int32} (V : VI c 0 0 h) (g0 : L c 7 x0) (gz : 0 ≤ z.toInt ∧ z.toInt ≤ 1 ∧ (z.toInt = 0 ∨ 0 ≤ x1.toInt ∧ x1.toInt ≤ 2)) (hZ : ∀ (o : xO) (g : xH), ((CI g ∧ x_mq g = x_mq h) ∧ (∃ v : Int32, o = .inl (some (.inl v)))) ∨ ((CI g ∧ x_pj g = c) ∧ ∃ k, o = .inr k) → Z o g) : xR 20000006000 49 26 ([.inr (.inr (7, x0)), .inl x1, .inl x2, .inl x3, .inl x4, .inl x5, .inr (.inr (0, 0)), .inr (.inr (0, 0))], [.inl z], h) Z := by
  refine xR.blk c49_26 ?_
  refine q_call (Nat.le_of_ble_eq_true rfl) (Nat.le_of_ble_eq_true rfl) (by rw [V.2.2.1]; decide) (by rw [V.2.2.2]; decide) ?_
  refine xC.up (tv45 (x0 := z) V.set  (fun o1 g2 hp => ?_)) (by omega)
  rcases hp with ⟨rfl, rfl, f5⟩ | ⟨hg3, k9, rfl⟩
  · skip
    have V6 : VI c 1 6 (x_setc (x_setc h 0 0) (x_ce h + 1) (x_so h + 6)) := VI.after (mc := 1) (ms := 6) V ⟨V.1, V.2.1⟩
    show x_seq _ _ _ _ ([.inr (.inr (7, x0)), .inl x1, .inl x2, .inl x3, .inl x4, .inl x5, .inr (.inr (0, 0)), .inr (.inr (0, 0))], [], (x_setc (x_setc h 0 0) (x_ce h + 1) (x_so h + 6)))
    refine q_iload rfl ?_
    refine v_iconst (k := 0) rfl (fun v7 e8 => ?_)
    refine v_iconst (k := 99) rfl (fun v9 e10 => ?_)
    refine q_call (Nat.le_of_ble_eq_true rfl) (Nat.le_of_ble_eq_true rfl) (by rw [V6.2.2.1]; decide) (by rw [V6.2.2.2]; decide) ?_
    refine xC.up (tv25 (x0 := x4) (x1 := v7) (x2 := v9) V6.set  (fun o11 g12 hp => ?_)) (by omega)
    obtain ⟨rfl, ⟨v14, rfl, f15⟩⟩ := hp
    show x_seq _ _ _ _ ([.inr (.inr (7, x0)), .inl x1, .inl x2, .inl x3, .inl x4, .inl x5, .inr (.inr (0, 0)), .inr (.inr (0, 0))], [.inl v14], (x_setc (x_setc h 0 0) (x_ce h + 1) (x_so h + 6)))
    refine v_if_eq (fun d16 => ?_) (fun d16 => ?_)
    · skip
      refine xR.blk c49_56 ?_
      refine v_iconst (k := 0) rfl (fun v17 e18 => ?_)
      refine q_goto ?_
      exact (rt57 V6 g0 (by omega) (by omega) (fun o g hp => hZ _ _ (hp.imp (fun q => ⟨⟨q.1.1, q.1.2⟩, q.2⟩) id))).up (by omega)
    · skip
      refine q_iload rfl ?_
      refine v_iconst (k := 0) rfl (fun v19 e20 => ?_)
      refine v_iconst (k := 1000) rfl (fun v21 e22 => ?_)
      refine q_call (Nat.le_of_ble_eq_true rfl) (Nat.le_of_ble_eq_true rfl) (by rw [V6.2.2.1]; decide) (by rw [V6.2.2.2]; decide) ?_
      refine xC.up (tv25 (x0 := x5) (x1 := v19) (x2 := v21) V6.set  (fun o23 g24 hp => ?_)) (by omega)
      obtain ⟨rfl, ⟨v26, rfl, f27⟩⟩ := hp
      show x_seq _ _ _ _ ([.inr (.inr (7, x0)), .inl x1, .inl x2, .inl x3, .inl x4, .inl x5, .inr (.inr (0, 0)), .inr (.inr (0, 0))], [.inl v26], (x_setc (x_setc h 0 0) (x_ce h + 1) (x_so h + 6)))
      refine v_if_eq (fun d28 => ?_) (fun d28 => ?_)
      · skip
        refine xR.blk c49_56 ?_
        refine v_iconst (k := 0) rfl (fun v29 e30 => ?_)
        refine q_goto ?_
        exact (rt57 V6 g0 (by omega) (by omega) (fun o g hp => hZ _ _ (hp.imp (fun q => ⟨⟨q.1.1, q.1.2⟩, q.2⟩) id))).up (by omega)
      · skip
        refine v_iconst (k := 1) rfl (fun v31 e32 => ?_)
        refine q_goto ?_
        exact (rt57 V6 g0 (by omega) (by omega) (fun o g hp => hZ _ _ (hp.imp (fun q => ⟨⟨q.1.1, q.1.2⟩, q.2⟩) id))).up (by omega)
  · exact hZ _ _ (Or.inr ⟨hg3, k9, rfl⟩)
theorem tv49 {c : xP} {h : xH} {Z : xO → xH → Prop} {x0 : Nat} {x1 : Int32} {x2 : Int32} {x3 : Int32} {x4 : Int32} {x5 : Int32} (V : VI c 0 0 h) (g0 : L c 7 x0) (hZ : ∀ (o : xO) (g : xH), ((CI g ∧ x_mq g = x_mq h) ∧ (∃ v : Int32, o = .inl (some (.inl v)))) ∨ ((CI g ∧ x_pj g = c) ∧ ∃ k, o = .inr k) → Z o g) : xC 20000009000 49 [.inr (.inr (7, x0)), .inl x1, .inl x2, .inl x3, .inl x4, .inl x5] h Z := by
  refine ⟨rfl, V.2.2.1, V.2.2.2, ?_⟩
  show xR _ 49 0 ([.inr (.inr (7, x0)), .inl x1, .inl x2, .inl x3, .inl x4, .inl x5, .inr (.inr (0, 0)), .inr (.inr (0, 0))], [], h) Z
  refine xR.blk c49_0 ?_
  refine q_iload rfl ?_
  refine q_call (Nat.le_of_ble_eq_true rfl) (Nat.le_of_ble_eq_true rfl) (by rw [V.2.2.1]; decide) (by rw [V.2.2.2]; decide) ?_
  refine xC.up (tv44 (x0 := x1) V.set  (fun o1 g2 hp => ?_)) (by omega)
  obtain ⟨rfl, ⟨v4, rfl, f5⟩⟩ := hp
  show x_seq _ _ _ _ ([.inr (.inr (7, x0)), .inl x1, .inl x2, .inl x3, .inl x4, .inl x5, .inr (.inr (0, 0)), .inr (.inr (0, 0))], [.inl v4], h)
  refine v_if_eq (fun d6 => ?_) (fun d6 => ?_)
  · skip
    refine xR.blk c49_25 ?_
    refine v_iconst (k := 0) rfl (fun v7 e8 => ?_)
    refine q_goto ?_
    exact (rt26 V g0 (by omega) hZ).up (by omega)
  · skip
    refine q_iload rfl ?_
    refine q_call (Nat.le_of_ble_eq_true rfl) (Nat.le_of_ble_eq_true rfl) (by rw [V.2.2.1]; decide) (by rw [V.2.2.2]; decide) ?_
    refine xC.up (tv44 (x0 := x3) V.set  (fun o9 g10 hp => ?_)) (by omega)
    obtain ⟨rfl, ⟨v12, rfl, f13⟩⟩ := hp
    show x_seq _ _ _ _ ([.inr (.inr (7, x0)), .inl x1, .inl x2, .inl x3, .inl x4, .inl x5, .inr (.inr (0, 0)), .inr (.inr (0, 0))], [.inl v12], h)
    refine v_if_eq (fun d14 => ?_) (fun d14 => ?_)
    · skip
      refine xR.blk c49_25 ?_
      refine v_iconst (k := 0) rfl (fun v15 e16 => ?_)
      refine q_goto ?_
      exact (rt26 V g0 (by omega) hZ).up (by omega)
    · skip
      refine q_iload rfl ?_
      refine q_call (Nat.le_of_ble_eq_true rfl) (Nat.le_of_ble_eq_true rfl) (by rw [V.2.2.1]; decide) (by rw [V.2.2.2]; decide) ?_
      refine xC.up (tv48 (x0 := x2) V.set  (fun o17 g18 hp => ?_)) (by omega)
      obtain ⟨rfl, ⟨v20, rfl, f21⟩⟩ := hp
      show x_seq _ _ _ _ ([.inr (.inr (7, x0)), .inl x1, .inl x2, .inl x3, .inl x4, .inl x5, .inr (.inr (0, 0)), .inr (.inr (0, 0))], [.inl v20], h)
      refine v_if_eq (fun d22 => ?_) (fun d22 => ?_)
      · skip
        refine xR.blk c49_25 ?_
        refine v_iconst (k := 0) rfl (fun v23 e24 => ?_)
        refine q_goto ?_
        exact (rt26 V g0 (by omega) hZ).up (by omega)
      · skip
        refine v_iconst (k := 1) rfl (fun v25 e26 => ?_)
        refine q_goto ?_
        exact (rt26 V g0 (by omega) hZ).up (by omega)
