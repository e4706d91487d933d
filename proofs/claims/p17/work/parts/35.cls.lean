theorem tv48 {c : xP} {h : xH} {Z : xO → xH → Prop} {x0 : Int32} (V : VI c 0 0 h)  (hZ : ∀ (o : xO) (g : xH), g = h ∧ (∃ v : Int32, o = .inl (some (.inl v)) ∧ 0 ≤ v.toInt ∧ v.toInt ≤ 1) → Z o g) : xC 20 48 [.inl x0] h Z := by
  refine ⟨rfl, V.2.2.1, V.2.2.2, ?_⟩
  show xR _ 48 0 ([.inl x0], [], h) Z
  refine xR.blk c48_0 ?_
  refine q_iload rfl ?_
  refine v_iconst (k := 10) rfl (fun v1 e2 => ?_)
  refine v_iconst (k := 19) rfl (fun v3 e4 => ?_)
  refine q_call (Nat.le_of_ble_eq_true rfl) (Nat.le_of_ble_eq_true rfl) (by rw [V.2.2.1]; decide) (by rw [V.2.2.2]; decide) ?_
  refine xC.up (tv25 (x0 := x0) (x1 := v1) (x2 := v3) V.set  (fun o5 g6 hp => ?_)) (by omega)
  obtain ⟨rfl, ⟨v8, rfl, f9⟩⟩ := hp
  show x_seq _ _ _ _ ([.inl x0], [.inl v8], h)
  refine v_if_ne (fun d10 => ?_) (fun d10 => ?_)
  · skip
    refine xR.blk c48_36 ?_
    refine v_iconst (k := 1) rfl (fun v11 e12 => ?_)
    refine q_goto ?_
    refine xR.blk c48_41 ?_
    exact q_zret (i32_01 (by omega)) (hZ _ _ ⟨rfl, ⟨_, rfl, by omega⟩⟩)
  · skip
    refine q_iload rfl ?_
    refine v_iconst (k := 100) rfl (fun v13 e14 => ?_)
    refine v_iconst (k := 199) rfl (fun v15 e16 => ?_)
    refine q_call (Nat.le_of_ble_eq_true rfl) (Nat.le_of_ble_eq_true rfl) (by rw [V.2.2.1]; decide) (by rw [V.2.2.2]; decide) ?_
    refine xC.up (tv25 (x0 := x0) (x1 := v13) (x2 := v15) V.set  (fun o17 g18 hp => ?_)) (by omega)
    obtain ⟨rfl, ⟨v20, rfl, f21⟩⟩ := hp
    show x_seq _ _ _ _ ([.inl x0], [.inl v20], h)
    refine v_if_ne (fun d22 => ?_) (fun d22 => ?_)
    · skip
      refine xR.blk c48_36 ?_
      refine v_iconst (k := 1) rfl (fun v23 e24 => ?_)
      refine q_goto ?_
      refine xR.blk c48_41 ?_
      exact q_zret (i32_01 (by omega)) (hZ _ _ ⟨rfl, ⟨_, rfl, by omega⟩⟩)
    · skip
      refine q_iload rfl ?_
      refine v_iconst (k := 1000) rfl (fun v25 e26 => ?_)
      refine v_iconst (k := 1999) rfl (fun v27 e28 => ?_)
      refine q_call (Nat.le_of_ble_eq_true rfl) (Nat.le_of_ble_eq_true rfl) (by rw [V.2.2.1]; decide) (by rw [V.2.2.2]; decide) ?_
      refine xC.up (tv25 (x0 := x0) (x1 := v25) (x2 := v27) V.set  (fun o29 g30 hp => ?_)) (by omega)
      obtain ⟨rfl, ⟨v32, rfl, f33⟩⟩ := hp
      show x_seq _ _ _ _ ([.inl x0], [.inl v32], h)
      refine v_if_eq (fun d34 => ?_) (fun d34 => ?_)
      · skip
        refine xR.blk c48_40 ?_
        refine v_iconst (k := 0) rfl (fun v35 e36 => ?_)
        refine q_goto ?_
        refine xR.blk c48_41 ?_
        exact q_zret (i32_01 (by omega)) (hZ _ _ ⟨rfl, ⟨_, rfl, by omega⟩⟩)
      · skip
        refine q_goto ?_
        refine xR.blk c48_36 ?_
        refine v_iconst (k := 1) rfl (fun v37 e38 => ?_)
        refine q_goto ?_
        refine xR.blk c48_41 ?_
        exact q_zret (i32_01 (by omega)) (hZ _ _ ⟨rfl, ⟨_, rfl, by omega⟩⟩)
theorem tv50 {c : xP} {h : xH} {Z : xO → xH → Prop} {x0 : Nat} {x1 : Int32} {x2 : Int32} {x3 : Int32} (V : VI c 0 0 h) (g0 : L c 7 x0) (hZ : ∀ (o : xO) (g : xH), ((CI g ∧ x_pj g = c) ∧ (∃ v : Int32, o = .inl (some (.inl v)))) ∨ ((CI g ∧ x_pj g = c) ∧ ∃ k, o = .inr k) → Z o g) : xC 1000 50 [.inr (.inr (7, x0)), .inl x1, .inl x2, .inl x3] h Z := by
  refine ⟨rfl, V.2.2.1, V.2.2.2, ?_⟩
  show xR _ 50 0 ([.inr (.inr (7, x0)), .inl x1, .inl x2, .inl x3, .inr (.inr (0, 0))], [], h) Z
  refine xR.blk c50_0 ?_
  refine q_iload rfl ?_
  refine q_call (Nat.le_of_ble_eq_true rfl) (Nat.le_of_ble_eq_true rfl) (by rw [V.2.2.1]; decide) (by rw [V.2.2.2]; decide) ?_
  refine xC.up (tv44 (x0 := x1) V.set  (fun o1 g2 hp => ?_)) (by omega)
  obtain ⟨rfl, ⟨v4, rfl, f5⟩⟩ := hp
  show x_seq _ _ _ _ ([.inr (.inr (7, x0)), .inl x1, .inl x2, .inl x3, .inr (.inr (0, 0))], [.inl v4], h)
  refine v_if_eq (fun d6 => ?_) (fun d6 => ?_)
  · skip
    refine xR.blk c50_27 ?_
    refine v_iconst (k := 0) rfl (fun v7 e8 => ?_)
    refine q_goto ?_
    refine xR.blk c50_28 ?_
    refine q_call (Nat.le_of_ble_eq_true rfl) (Nat.le_of_ble_eq_true rfl) (by rw [V.2.2.1]; decide) (by rw [V.2.2.2]; decide) ?_
    refine xC.up (tv45 (x0 := v7) V.set  (fun o9 g10 hp => ?_)) (by omega)
    rcases hp with ⟨rfl, rfl, f13⟩ | ⟨hg11, k9, rfl⟩
    · skip
      have V14 : VI c 1 6 (x_setc (x_setc h 0 0) (x_ce h + 1) (x_so h + 6)) := VI.after (mc := 1) (ms := 6) V ⟨V.1, V.2.1⟩
      show x_seq _ _ _ _ ([.inr (.inr (7, x0)), .inl x1, .inl x2, .inl x3, .inr (.inr (0, 0))], [], (x_setc (x_setc h 0 0) (x_ce h + 1) (x_so h + 6)))
      refine q_aload rfl (by decide) ?_
      refine v_gfrn V14 (by decide) rfl g0 (fun j15 f16 => ?_)
      refine q_iload rfl ?_
      refine v_aaldn V14 (L' := 3) (by decide) (by decide) rfl f16 (by omega) (by omega) (fun j17 f18 => ?_)
      refine v_gfrn V14 (by decide) rfl f18 (fun j19 f20 => ?_)
      refine q_iload rfl ?_
      refine v_aaldn V14 (L' := 4) (by decide) (by decide) rfl f20 (by omega) (by omega) (fun j21 f22 => ?_)
      refine q_astore (Nat.le_of_ble_eq_true rfl) ?_
      show x_seq _ _ _ _ ([.inr (.inr (7, x0)), .inl x1, .inl x2, .inl x3, .inr (.inr (5, j21))], [], (x_setc (x_setc h 0 0) (x_ce h + 1) (x_so h + 6)))
      refine q_aload rfl (by decide) ?_
      refine q_callv rfl (by decide) (V14.lv f22) (Nat.le_of_ble_eq_true rfl) (Nat.le_of_ble_eq_true rfl) (by rw [V14.2.2.1]; decide) (by rw [V14.2.2.2]; decide) ?_
      refine xC.up (tv24 (x0 := j21) V14.set f22 (fun o23 g24 hp => ?_)) (by omega)
      obtain ⟨rfl, ⟨v26, rfl, f27⟩⟩ := hp
      show x_seq _ _ _ _ ([.inr (.inr (7, x0)), .inl x1, .inl x2, .inl x3, .inr (.inr (5, j21))], [.inl v26], (x_setc (x_setc h 0 0) (x_ce h + 1) (x_so h + 6)))
      refine v_iconst (k := 6) rfl (fun v28 e29 => ?_)
      refine v_icmp_ge (fun d30 => ?_) (fun d30 => ?_)
      · skip
        refine xR.blk c50_71 ?_
        refine v_iconst (k := 0) rfl (fun v31 e32 => ?_)
        refine q_goto ?_
        refine xR.blk c50_72 ?_
        refine q_call (Nat.le_of_ble_eq_true rfl) (Nat.le_of_ble_eq_true rfl) (by rw [V14.2.2.1]; decide) (by rw [V14.2.2.2]; decide) ?_
        refine xC.up (tv46 (x0 := v31) V14.set  (fun o33 g34 hp => ?_)) (by omega)
        rcases hp with ⟨rfl, rfl, f37⟩ | ⟨hg35, k9, rfl⟩
        · skip
          have V38 : VI c 2 12 (x_setc (x_setc (x_setc (x_setc h 0 0) (x_ce h + 1) (x_so h + 6)) 0 0) (x_ce (x_setc (x_setc h 0 0) (x_ce h + 1) (x_so h + 6)) + 1) (x_so (x_setc (x_setc h 0 0) (x_ce h + 1) (x_so h + 6)) + 6)) := VI.after (mc := 1) (ms := 6) V14 ⟨V14.1, V14.2.1⟩
          show x_seq _ _ _ _ ([.inr (.inr (7, x0)), .inl x1, .inl x2, .inl x3, .inr (.inr (5, j21))], [], (x_setc (x_setc (x_setc (x_setc h 0 0) (x_ce h + 1) (x_so h + 6)) 0 0) (x_ce (x_setc (x_setc h 0 0) (x_ce h + 1) (x_so h + 6)) + 1) (x_so (x_setc (x_setc h 0 0) (x_ce h + 1) (x_so h + 6)) + 6)))
          refine q_aload rfl (by decide) ?_
          refine q_iload rfl ?_
          refine q_callv rfl (by decide) (V38.lv f22) (Nat.le_of_ble_eq_true rfl) (Nat.le_of_ble_eq_true rfl) (by rw [V38.2.2.1]; decide) (by rw [V38.2.2.2]; decide) ?_
          refine xC.up (tv37 (x0 := j21) (x1 := x3) V38.set f22 (fun o39 g40 hp => ?_)) (by omega)
          obtain ⟨hg41, rfl⟩ := hp
          have V44 := VI.after (mc := 0) (ms := 0) V38 hg41
          show x_seq _ _ _ _ ([.inr (.inr (7, x0)), .inl x1, .inl x2, .inl x3, .inr (.inr (5, j21))], [], x_setc g40 (x_ce (x_setc (x_setc (x_setc (x_setc h 0 0) (x_ce h + 1) (x_so h + 6)) 0 0) (x_ce (x_setc (x_setc h 0 0) (x_ce h + 1) (x_so h + 6)) + 1) (x_so (x_setc (x_setc h 0 0) (x_ce h + 1) (x_so h + 6)) + 6)) + 0) (x_so (x_setc (x_setc (x_setc (x_setc h 0 0) (x_ce h + 1) (x_so h + 6)) 0 0) (x_ce (x_setc (x_setc h 0 0) (x_ce h + 1) (x_so h + 6)) + 1) (x_so (x_setc (x_setc h 0 0) (x_ce h + 1) (x_so h + 6)) + 6)) + 0))
          generalize x_setc g40 (x_ce (x_setc (x_setc (x_setc (x_setc h 0 0) (x_ce h + 1) (x_so h + 6)) 0 0) (x_ce (x_setc (x_setc h 0 0) (x_ce h + 1) (x_so h + 6)) + 1) (x_so (x_setc (x_setc h 0 0) (x_ce h + 1) (x_so h + 6)) + 6)) + 0) (x_so (x_setc (x_setc (x_setc (x_setc h 0 0) (x_ce h + 1) (x_so h + 6)) 0 0) (x_ce (x_setc (x_setc h 0 0) (x_ce h + 1) (x_so h + 6)) + 1) (x_so (x_setc (x_setc h 0 0) (x_ce h + 1) (x_so h + 6)) + 6)) + 0) = h45 at V44 ⊢
          refine q_aload rfl (by decide) ?_
          refine q_callv rfl (by decide) (V44.lv f22) (Nat.le_of_ble_eq_true rfl) (Nat.le_of_ble_eq_true rfl) (by rw [V44.2.2.1]; decide) (by rw [V44.2.2.2]; decide) ?_
          refine xC.up (tv24 (x0 := j21) V44.set f22 (fun o46 g47 hp => ?_)) (by omega)
          obtain ⟨rfl, ⟨v49, rfl, f50⟩⟩ := hp
          show x_seq _ _ _ _ ([.inr (.inr (7, x0)), .inl x1, .inl x2, .inl x3, .inr (.inr (5, j21))], [.inl v49], h45)
          exact q_iret (hZ _ _ (Or.inl ⟨⟨V44.1, V44.2.1⟩, ⟨_, rfl⟩⟩))
        · exact hZ _ _ (Or.inr ⟨hg35, k9, rfl⟩)
      · skip
        refine q_aload rfl (by decide) ?_
        refine v_gfrn V14 (by decide) rfl g0 (fun j51 f52 => ?_)
        refine q_iload rfl ?_
        refine v_aaldn V14 (L' := 3) (by decide) (by decide) rfl f52 (by omega) (by omega) (fun j53 f54 => ?_)
        refine q_iload rfl ?_
        refine q_callv rfl (by decide) (V14.lv f54) (Nat.le_of_ble_eq_true rfl) (Nat.le_of_ble_eq_true rfl) (by rw [V14.2.2.1]; decide) (by rw [V14.2.2.2]; decide) ?_
        refine xC.up (tv22 (x0 := j53) (x1 := x3) V14.set f54 (fun o55 g56 hp => ?_)) (by omega)
        obtain ⟨rfl, ⟨v58, rfl, f59⟩⟩ := hp
        show x_seq _ _ _ _ ([.inr (.inr (7, x0)), .inl x1, .inl x2, .inl x3, .inr (.inr (5, j21))], [.inl v58], (x_setc (x_setc h 0 0) (x_ce h + 1) (x_so h + 6)))
        refine v_if_ne (fun d60 => ?_) (fun d60 => ?_)
        · skip
          refine xR.blk c50_71 ?_
          refine v_iconst (k := 0) rfl (fun v61 e62 => ?_)
          refine q_goto ?_
          refine xR.blk c50_72 ?_
          refine q_call (Nat.le_of_ble_eq_true rfl) (Nat.le_of_ble_eq_true rfl) (by rw [V14.2.2.1]; decide) (by rw [V14.2.2.2]; decide) ?_
          refine xC.up (tv46 (x0 := v61) V14.set  (fun o63 g64 hp => ?_)) (by omega)
          rcases hp with ⟨rfl, rfl, f67⟩ | ⟨hg65, k9, rfl⟩
          · skip
            have V68 : VI c 2 12 (x_setc (x_setc (x_setc (x_setc h 0 0) (x_ce h + 1) (x_so h + 6)) 0 0) (x_ce (x_setc (x_setc h 0 0) (x_ce h + 1) (x_so h + 6)) + 1) (x_so (x_setc (x_setc h 0 0) (x_ce h + 1) (x_so h + 6)) + 6)) := VI.after (mc := 1) (ms := 6) V14 ⟨V14.1, V14.2.1⟩
            show x_seq _ _ _ _ ([.inr (.inr (7, x0)), .inl x1, .inl x2, .inl x3, .inr (.inr (5, j21))], [], (x_setc (x_setc (x_setc (x_setc h 0 0) (x_ce h + 1) (x_so h + 6)) 0 0) (x_ce (x_setc (x_setc h 0 0) (x_ce h + 1) (x_so h + 6)) + 1) (x_so (x_setc (x_setc h 0 0) (x_ce h + 1) (x_so h + 6)) + 6)))
            refine q_aload rfl (by decide) ?_
            refine q_iload rfl ?_
            refine q_callv rfl (by decide) (V68.lv f22) (Nat.le_of_ble_eq_true rfl) (Nat.le_of_ble_eq_true rfl) (by rw [V68.2.2.1]; decide) (by rw [V68.2.2.2]; decide) ?_
            refine xC.up (tv37 (x0 := j21) (x1 := x3) V68.set f22 (fun o69 g70 hp => ?_)) (by omega)
            obtain ⟨hg71, rfl⟩ := hp
            have V74 := VI.after (mc := 0) (ms := 0) V68 hg71
            show x_seq _ _ _ _ ([.inr (.inr (7, x0)), .inl x1, .inl x2, .inl x3, .inr (.inr (5, j21))], [], x_setc g70 (x_ce (x_setc (x_setc (x_setc (x_setc h 0 0) (x_ce h + 1) (x_so h + 6)) 0 0) (x_ce (x_setc (x_setc h 0 0) (x_ce h + 1) (x_so h + 6)) + 1) (x_so (x_setc (x_setc h 0 0) (x_ce h + 1) (x_so h + 6)) + 6)) + 0) (x_so (x_setc (x_setc (x_setc (x_setc h 0 0) (x_ce h + 1) (x_so h + 6)) 0 0) (x_ce (x_setc (x_setc h 0 0) (x_ce h + 1) (x_so h + 6)) + 1) (x_so (x_setc (x_setc h 0 0) (x_ce h + 1) (x_so h + 6)) + 6)) + 0))
            generalize x_setc g70 (x_ce (x_setc (x_setc (x_setc (x_setc h 0 0) (x_ce h + 1) (x_so h + 6)) 0 0) (x_ce (x_setc (x_setc h 0 0) (x_ce h + 1) (x_so h + 6)) + 1) (x_so (x_setc (x_setc h 0 0) (x_ce h + 1) (x_so h + 6)) + 6)) + 0) (x_so (x_setc (x_setc (x_setc (x_setc h 0 0) (x_ce h + 1) (x_so h + 6)) 0 0) (x_ce (x_setc (x_setc h 0 0) (x_ce h + 1) (x_so h + 6)) + 1) (x_so (x_setc (x_setc h 0 0) (x_ce h + 1) (x_so h + 6)) + 6)) + 0) = h75 at V74 ⊢
            refine q_aload rfl (by decide) ?_
            refine q_callv rfl (by decide) (V74.lv f22) (Nat.le_of_ble_eq_true rfl) (Nat.le_of_ble_eq_true rfl) (by rw [V74.2.2.1]; decide) (by rw [V74.2.2.2]; decide) ?_
            refine xC.up (tv24 (x0 := j21) V74.set f22 (fun o76 g77 hp => ?_)) (by omega)
            obtain ⟨rfl, ⟨v79, rfl, f80⟩⟩ := hp
            show x_seq _ _ _ _ ([.inr (.inr (7, x0)), .inl x1, .inl x2, .inl x3, .inr (.inr (5, j21))], [.inl v79], h75)
            exact q_iret (hZ _ _ (Or.inl ⟨⟨V74.1, V74.2.1⟩, ⟨_, rfl⟩⟩))
          · exact hZ _ _ (Or.inr ⟨hg65, k9, rfl⟩)
        · skip
          refine v_iconst (k := 1) rfl (fun v81 e82 => ?_)
          refine q_goto ?_
          refine xR.blk c50_72 ?_
          refine q_call (Nat.le_of_ble_eq_true rfl) (Nat.le_of_ble_eq_true rfl) (by rw [V14.2.2.1]; decide) (by rw [V14.2.2.2]; decide) ?_
          refine xC.up (tv46 (x0 := v81) V14.set  (fun o83 g84 hp => ?_)) (by omega)
          rcases hp with ⟨rfl, rfl, f87⟩ | ⟨hg85, k9, rfl⟩
          · skip
            have V88 : VI c 2 12 (x_setc (x_setc (x_setc (x_setc h 0 0) (x_ce h + 1) (x_so h + 6)) 0 0) (x_ce (x_setc (x_setc h 0 0) (x_ce h + 1) (x_so h + 6)) + 1) (x_so (x_setc (x_setc h 0 0) (x_ce h + 1) (x_so h + 6)) + 6)) := VI.after (mc := 1) (ms := 6) V14 ⟨V14.1, V14.2.1⟩
            show x_seq _ _ _ _ ([.inr (.inr (7, x0)), .inl x1, .inl x2, .inl x3, .inr (.inr (5, j21))], [], (x_setc (x_setc (x_setc (x_setc h 0 0) (x_ce h + 1) (x_so h + 6)) 0 0) (x_ce (x_setc (x_setc h 0 0) (x_ce h + 1) (x_so h + 6)) + 1) (x_so (x_setc (x_setc h 0 0) (x_ce h + 1) (x_so h + 6)) + 6)))
            refine q_aload rfl (by decide) ?_
            refine q_iload rfl ?_
            refine q_callv rfl (by decide) (V88.lv f22) (Nat.le_of_ble_eq_true rfl) (Nat.le_of_ble_eq_true rfl) (by rw [V88.2.2.1]; decide) (by rw [V88.2.2.2]; decide) ?_
            refine xC.up (tv37 (x0 := j21) (x1 := x3) V88.set f22 (fun o89 g90 hp => ?_)) (by omega)
            obtain ⟨hg91, rfl⟩ := hp
            have V94 := VI.after (mc := 0) (ms := 0) V88 hg91
            show x_seq _ _ _ _ ([.inr (.inr (7, x0)), .inl x1, .inl x2, .inl x3, .inr (.inr (5, j21))], [], x_setc g90 (x_ce (x_setc (x_setc (x_setc (x_setc h 0 0) (x_ce h + 1) (x_so h + 6)) 0 0) (x_ce (x_setc (x_setc h 0 0) (x_ce h + 1) (x_so h + 6)) + 1) (x_so (x_setc (x_setc h 0 0) (x_ce h + 1) (x_so h + 6)) + 6)) + 0) (x_so (x_setc (x_setc (x_setc (x_setc h 0 0) (x_ce h + 1) (x_so h + 6)) 0 0) (x_ce (x_setc (x_setc h 0 0) (x_ce h + 1) (x_so h + 6)) + 1) (x_so (x_setc (x_setc h 0 0) (x_ce h + 1) (x_so h + 6)) + 6)) + 0))
            generalize x_setc g90 (x_ce (x_setc (x_setc (x_setc (x_setc h 0 0) (x_ce h + 1) (x_so h + 6)) 0 0) (x_ce (x_setc (x_setc h 0 0) (x_ce h + 1) (x_so h + 6)) + 1) (x_so (x_setc (x_setc h 0 0) (x_ce h + 1) (x_so h + 6)) + 6)) + 0) (x_so (x_setc (x_setc (x_setc (x_setc h 0 0) (x_ce h + 1) (x_so h + 6)) 0 0) (x_ce (x_setc (x_setc h 0 0) (x_ce h + 1) (x_so h + 6)) + 1) (x_so (x_setc (x_setc h 0 0) (x_ce h + 1) (x_so h + 6)) + 6)) + 0) = h95 at V94 ⊢
            refine q_aload rfl (by decide) ?_
            refine q_callv rfl (by decide) (V94.lv f22) (Nat.le_of_ble_eq_true rfl) (Nat.le_of_ble_eq_true rfl) (by rw [V94.2.2.1]; decide) (by rw [V94.2.2.2]; decide) ?_
            refine xC.up (tv24 (x0 := j21) V94.set f22 (fun o96 g97 hp => ?_)) (by omega)
            obtain ⟨rfl, ⟨v99, rfl, f100⟩⟩ := hp
            show x_seq _ _ _ _ ([.inr (.inr (7, x0)), .inl x1, .inl x2, .inl x3, .inr (.inr (5, j21))], [.inl v99], h95)
            exact q_iret (hZ _ _ (Or.inl ⟨⟨V94.1, V94.2.1⟩, ⟨_, rfl⟩⟩))
          · exact hZ _ _ (Or.inr ⟨hg85, k9, rfl⟩)
    · exact hZ _ _ (Or.inr ⟨hg11, k9, rfl⟩)
  · skip
    refine q_iload rfl ?_
    refine v_iconst (k := 0) rfl (fun v101 e102 => ?_)
    refine v_iconst (k := 3) rfl (fun v103 e104 => ?_)
    refine q_call (Nat.le_of_ble_eq_true rfl) (Nat.le_of_ble_eq_true rfl) (by rw [V.2.2.1]; decide) (by rw [V.2.2.2]; decide) ?_
    refine xC.up (tv25 (x0 := x2) (x1 := v101) (x2 := v103) V.set  (fun o105 g106 hp => ?_)) (by omega)
    obtain ⟨rfl, ⟨v108, rfl, f109⟩⟩ := hp
    show x_seq _ _ _ _ ([.inr (.inr (7, x0)), .inl x1, .inl x2, .inl x3, .inr (.inr (0, 0))], [.inl v108], h)
    refine v_if_eq (fun d110 => ?_) (fun d110 => ?_)
    · skip
      refine xR.blk c50_27 ?_
      refine v_iconst (k := 0) rfl (fun v111 e112 => ?_)
      refine q_goto ?_
      refine xR.blk c50_28 ?_
      refine q_call (Nat.le_of_ble_eq_true rfl) (Nat.le_of_ble_eq_true rfl) (by rw [V.2.2.1]; decide) (by rw [V.2.2.2]; decide) ?_
      refine xC.up (tv45 (x0 := v111) V.set  (fun o113 g114 hp => ?_)) (by omega)
      rcases hp with ⟨rfl, rfl, f117⟩ | ⟨hg115, k9, rfl⟩
      · skip
        have V118 : VI c 1 6 (x_setc (x_setc h 0 0) (x_ce h + 1) (x_so h + 6)) := VI.after (mc := 1) (ms := 6) V ⟨V.1, V.2.1⟩
        show x_seq _ _ _ _ ([.inr (.inr (7, x0)), .inl x1, .inl x2, .inl x3, .inr (.inr (0, 0))], [], (x_setc (x_setc h 0 0) (x_ce h + 1) (x_so h + 6)))
        refine q_aload rfl (by decide) ?_
        refine v_gfrn V118 (by decide) rfl g0 (fun j119 f120 => ?_)
        refine q_iload rfl ?_
        refine v_aaldn V118 (L' := 3) (by decide) (by decide) rfl f120 (by omega) (by omega) (fun j121 f122 => ?_)
        refine v_gfrn V118 (by decide) rfl f122 (fun j123 f124 => ?_)
        refine q_iload rfl ?_
        refine v_aaldn V118 (L' := 4) (by decide) (by decide) rfl f124 (by omega) (by omega) (fun j125 f126 => ?_)
        refine q_astore (Nat.le_of_ble_eq_true rfl) ?_
        show x_seq _ _ _ _ ([.inr (.inr (7, x0)), .inl x1, .inl x2, .inl x3, .inr (.inr (5, j125))], [], (x_setc (x_setc h 0 0) (x_ce h + 1) (x_so h + 6)))
        refine q_aload rfl (by decide) ?_
        refine q_callv rfl (by decide) (V118.lv f126) (Nat.le_of_ble_eq_true rfl) (Nat.le_of_ble_eq_true rfl) (by rw [V118.2.2.1]; decide) (by rw [V118.2.2.2]; decide) ?_
        refine xC.up (tv24 (x0 := j125) V118.set f126 (fun o127 g128 hp => ?_)) (by omega)
        obtain ⟨rfl, ⟨v130, rfl, f131⟩⟩ := hp
        show x_seq _ _ _ _ ([.inr (.inr (7, x0)), .inl x1, .inl x2, .inl x3, .inr (.inr (5, j125))], [.inl v130], (x_setc (x_setc h 0 0) (x_ce h + 1) (x_so h + 6)))
        refine v_iconst (k := 6) rfl (fun v132 e133 => ?_)
        refine v_icmp_ge (fun d134 => ?_) (fun d134 => ?_)
        · skip
          refine xR.blk c50_71 ?_
          refine v_iconst (k := 0) rfl (fun v135 e136 => ?_)
          refine q_goto ?_
          refine xR.blk c50_72 ?_
          refine q_call (Nat.le_of_ble_eq_true rfl) (Nat.le_of_ble_eq_true rfl) (by rw [V118.2.2.1]; decide) (by rw [V118.2.2.2]; decide) ?_
          refine xC.up (tv46 (x0 := v135) V118.set  (fun o137 g138 hp => ?_)) (by omega)
          rcases hp with ⟨rfl, rfl, f141⟩ | ⟨hg139, k9, rfl⟩
          · skip
            have V142 : VI c 2 12 (x_setc (x_setc (x_setc (x_setc h 0 0) (x_ce h + 1) (x_so h + 6)) 0 0) (x_ce (x_setc (x_setc h 0 0) (x_ce h + 1) (x_so h + 6)) + 1) (x_so (x_setc (x_setc h 0 0) (x_ce h + 1) (x_so h + 6)) + 6)) := VI.after (mc := 1) (ms := 6) V118 ⟨V118.1, V118.2.1⟩
            show x_seq _ _ _ _ ([.inr (.inr (7, x0)), .inl x1, .inl x2, .inl x3, .inr (.inr (5, j125))], [], (x_setc (x_setc (x_setc (x_setc h 0 0) (x_ce h + 1) (x_so h + 6)) 0 0) (x_ce (x_setc (x_setc h 0 0) (x_ce h + 1) (x_so h + 6)) + 1) (x_so (x_setc (x_setc h 0 0) (x_ce h + 1) (x_so h + 6)) + 6)))
            refine q_aload rfl (by decide) ?_
            refine q_iload rfl ?_
            refine q_callv rfl (by decide) (V142.lv f126) (Nat.le_of_ble_eq_true rfl) (Nat.le_of_ble_eq_true rfl) (by rw [V142.2.2.1]; decide) (by rw [V142.2.2.2]; decide) ?_
            refine xC.up (tv37 (x0 := j125) (x1 := x3) V142.set f126 (fun o143 g144 hp => ?_)) (by omega)
            obtain ⟨hg145, rfl⟩ := hp
            have V148 := VI.after (mc := 0) (ms := 0) V142 hg145
            show x_seq _ _ _ _ ([.inr (.inr (7, x0)), .inl x1, .inl x2, .inl x3, .inr (.inr (5, j125))], [], x_setc g144 (x_ce (x_setc (x_setc (x_setc (x_setc h 0 0) (x_ce h + 1) (x_so h + 6)) 0 0) (x_ce (x_setc (x_setc h 0 0) (x_ce h + 1) (x_so h + 6)) + 1) (x_so (x_setc (x_setc h 0 0) (x_ce h + 1) (x_so h + 6)) + 6)) + 0) (x_so (x_setc (x_setc (x_setc (x_setc h 0 0) (x_ce h + 1) (x_so h + 6)) 0 0) (x_ce (x_setc (x_setc h 0 0) (x_ce h + 1) (x_so h + 6)) + 1) (x_so (x_setc (x_setc h 0 0) (x_ce h + 1) (x_so h + 6)) + 6)) + 0))
            generalize x_setc g144 (x_ce (x_setc (x_setc (x_setc (x_setc h 0 0) (x_ce h + 1) (x_so h + 6)) 0 0) (x_ce (x_setc (x_setc h 0 0) (x_ce h + 1) (x_so h + 6)) + 1) (x_so (x_setc (x_setc h 0 0) (x_ce h + 1) (x_so h + 6)) + 6)) + 0) (x_so (x_setc (x_setc (x_setc (x_setc h 0 0) (x_ce h + 1) (x_so h + 6)) 0 0) (x_ce (x_setc (x_setc h 0 0) (x_ce h + 1) (x_so h + 6)) + 1) (x_so (x_setc (x_setc h 0 0) (x_ce h + 1) (x_so h + 6)) + 6)) + 0) = h149 at V148 ⊢
            refine q_aload rfl (by decide) ?_
            refine q_callv rfl (by decide) (V148.lv f126) (Nat.le_of_ble_eq_true rfl) (Nat.le_of_ble_eq_true rfl) (by rw [V148.2.2.1]; decide) (by rw [V148.2.2.2]; decide) ?_
            refine xC.up (tv24 (x0 := j125) V148.set f126 (fun o150 g151 hp => ?_)) (by omega)
            obtain ⟨rfl, ⟨v153, rfl, f154⟩⟩ := hp
            show x_seq _ _ _ _ ([.inr (.inr (7, x0)), .inl x1, .inl x2, .inl x3, .inr (.inr (5, j125))], [.inl v153], h149)
            exact q_iret (hZ _ _ (Or.inl ⟨⟨V148.1, V148.2.1⟩, ⟨_, rfl⟩⟩))
          · exact hZ _ _ (Or.inr ⟨hg139, k9, rfl⟩)
        · skip
          refine q_aload rfl (by decide) ?_
          refine v_gfrn V118 (by decide) rfl g0 (fun j155 f156 => ?_)
          refine q_iload rfl ?_
          refine v_aaldn V118 (L' := 3) (by decide) (by decide) rfl f156 (by omega) (by omega) (fun j157 f158 => ?_)
          refine q_iload rfl ?_
          refine q_callv rfl (by decide) (V118.lv f158) (Nat.le_of_ble_eq_true rfl) (Nat.le_of_ble_eq_true rfl) (by rw [V118.2.2.1]; decide) (by rw [V118.2.2.2]; decide) ?_
          refine xC.up (tv22 (x0 := j157) (x1 := x3) V118.set f158 (fun o159 g160 hp => ?_)) (by omega)
          obtain ⟨rfl, ⟨v162, rfl, f163⟩⟩ := hp
          show x_seq _ _ _ _ ([.inr (.inr (7, x0)), .inl x1, .inl x2, .inl x3, .inr (.inr (5, j125))], [.inl v162], (x_setc (x_setc h 0 0) (x_ce h + 1) (x_so h + 6)))
          refine v_if_ne (fun d164 => ?_) (fun d164 => ?_)
          · skip
            refine xR.blk c50_71 ?_
            refine v_iconst (k := 0) rfl (fun v165 e166 => ?_)
            refine q_goto ?_
            refine xR.blk c50_72 ?_
            refine q_call (Nat.le_of_ble_eq_true rfl) (Nat.le_of_ble_eq_true rfl) (by rw [V118.2.2.1]; decide) (by rw [V118.2.2.2]; decide) ?_
            refine xC.up (tv46 (x0 := v165) V118.set  (fun o167 g168 hp => ?_)) (by omega)
            rcases hp with ⟨rfl, rfl, f171⟩ | ⟨hg169, k9, rfl⟩
            · skip
              have V172 : VI c 2 12 (x_setc (x_setc (x_setc (x_setc h 0 0) (x_ce h + 1) (x_so h + 6)) 0 0) (x_ce (x_setc (x_setc h 0 0) (x_ce h + 1) (x_so h + 6)) + 1) (x_so (x_setc (x_setc h 0 0) (x_ce h + 1) (x_so h + 6)) + 6)) := VI.after (mc := 1) (ms := 6) V118 ⟨V118.1, V118.2.1⟩
              show x_seq _ _ _ _ ([.inr (.inr (7, x0)), .inl x1, .inl x2, .inl x3, .inr (.inr (5, j125))], [], (x_setc (x_setc (x_setc (x_setc h 0 0) (x_ce h + 1) (x_so h + 6)) 0 0) (x_ce (x_setc (x_setc h 0 0) (x_ce h + 1) (x_so h + 6)) + 1) (x_so (x_setc (x_setc h 0 0) (x_ce h + 1) (x_so h + 6)) + 6)))
              refine q_aload rfl (by decide) ?_
              refine q_iload rfl ?_
              refine q_callv rfl (by decide) (V172.lv f126) (Nat.le_of_ble_eq_true rfl) (Nat.le_of_ble_eq_true rfl) (by rw [V172.2.2.1]; decide) (by rw [V172.2.2.2]; decide) ?_
              refine xC.up (tv37 (x0 := j125) (x1 := x3) V172.set f126 (fun o173 g174 hp => ?_)) (by omega)
              obtain ⟨hg175, rfl⟩ := hp
              have V178 := VI.after (mc := 0) (ms := 0) V172 hg175
              show x_seq _ _ _ _ ([.inr (.inr (7, x0)), .inl x1, .inl x2, .inl x3, .inr (.inr (5, j125))], [], x_setc g174 (x_ce (x_setc (x_setc (x_setc (x_setc h 0 0) (x_ce h + 1) (x_so h + 6)) 0 0) (x_ce (x_setc (x_setc h 0 0) (x_ce h + 1) (x_so h + 6)) + 1) (x_so (x_setc (x_setc h 0 0) (x_ce h + 1) (x_so h + 6)) + 6)) + 0) (x_so (x_setc (x_setc (x_setc (x_setc h 0 0) (x_ce h + 1) (x_so h + 6)) 0 0) (x_ce (x_setc (x_setc h 0 0) (x_ce h + 1) (x_so h + 6)) + 1) (x_so (x_setc (x_setc h 0 0) (x_ce h + 1) (x_so h + 6)) + 6)) + 0))
              generalize x_setc g174 (x_ce (x_setc (x_setc (x_setc (x_setc h 0 0) (x_ce h + 1) (x_so h + 6)) 0 0) (x_ce (x_setc (x_setc h 0 0) (x_ce h + 1) (x_so h + 6)) + 1) (x_so (x_setc (x_setc h 0 0) (x_ce h + 1) (x_so h + 6)) + 6)) + 0) (x_so (x_setc (x_setc (x_setc (x_setc h 0 0) (x_ce h + 1) (x_so h + 6)) 0 0) (x_ce (x_setc (x_setc h 0 0) (x_ce h + 1) (x_so h + 6)) + 1) (x_so (x_setc (x_setc h 0 0) (x_ce h + 1) (x_so h + 6)) + 6)) + 0) = h179 at V178 ⊢
              refine q_aload rfl (by decide) ?_
              refine q_callv rfl (by decide) (V178.lv f126) (Nat.le_of_ble_eq_true rfl) (Nat.le_of_ble_eq_true rfl) (by rw [V178.2.2.1]; decide) (by rw [V178.2.2.2]; decide) ?_
              refine xC.up (tv24 (x0 := j125) V178.set f126 (fun o180 g181 hp => ?_)) (by omega)
              obtain ⟨rfl, ⟨v183, rfl, f184⟩⟩ := hp
              show x_seq _ _ _ _ ([.inr (.inr (7, x0)), .inl x1, .inl x2, .inl x3, .inr (.inr (5, j125))], [.inl v183], h179)
              exact q_iret (hZ _ _ (Or.inl ⟨⟨V178.1, V178.2.1⟩, ⟨_, rfl⟩⟩))
            · exact hZ _ _ (Or.inr ⟨hg169, k9, rfl⟩)
          · skip
            refine v_iconst (k := 1) rfl (fun v185 e186 => ?_)
            refine q_goto ?_
            refine xR.blk c50_72 ?_
            refine q_call (Nat.le_of_ble_eq_true rfl) (Nat.le_of_ble_eq_true rfl) (by rw [V118.2.2.1]; decide) (by rw [V118.2.2.2]; decide) ?_
            refine xC.up (tv46 (x0 := v185) V118.set  (fun o187 g188 hp => ?_)) (by omega)
            rcases hp with ⟨rfl, rfl, f191⟩ | ⟨hg189, k9, rfl⟩
            · skip
              have V192 : VI c 2 12 (x_setc (x_setc (x_setc (x_setc h 0 0) (x_ce h + 1) (x_so h + 6)) 0 0) (x_ce (x_setc (x_setc h 0 0) (x_ce h + 1) (x_so h + 6)) + 1) (x_so (x_setc (x_setc h 0 0) (x_ce h + 1) (x_so h + 6)) + 6)) := VI.after (mc := 1) (ms := 6) V118 ⟨V118.1, V118.2.1⟩
              show x_seq _ _ _ _ ([.inr (.inr (7, x0)), .inl x1, .inl x2, .inl x3, .inr (.inr (5, j125))], [], (x_setc (x_setc (x_setc (x_setc h 0 0) (x_ce h + 1) (x_so h + 6)) 0 0) (x_ce (x_setc (x_setc h 0 0) (x_ce h + 1) (x_so h + 6)) + 1) (x_so (x_setc (x_setc h 0 0) (x_ce h + 1) (x_so h + 6)) + 6)))
              refine q_aload rfl (by decide) ?_
              refine q_iload rfl ?_
              refine q_callv rfl (by decide) (V192.lv f126) (Nat.le_of_ble_eq_true rfl) (Nat.le_of_ble_eq_true rfl) (by rw [V192.2.2.1]; decide) (by rw [V192.2.2.2]; decide) ?_
              refine xC.up (tv37 (x0 := j125) (x1 := x3) V192.set f126 (fun o193 g194 hp => ?_)) (by omega)
              obtain ⟨hg195, rfl⟩ := hp
              have V198 := VI.after (mc := 0) (ms := 0) V192 hg195
              show x_seq _ _ _ _ ([.inr (.inr (7, x0)), .inl x1, .inl x2, .inl x3, .inr (.inr (5, j125))], [], x_setc g194 (x_ce (x_setc (x_setc (x_setc (x_setc h 0 0) (x_ce h + 1) (x_so h + 6)) 0 0) (x_ce (x_setc (x_setc h 0 0) (x_ce h + 1) (x_so h + 6)) + 1) (x_so (x_setc (x_setc h 0 0) (x_ce h + 1) (x_so h + 6)) + 6)) + 0) (x_so (x_setc (x_setc (x_setc (x_setc h 0 0) (x_ce h + 1) (x_so h + 6)) 0 0) (x_ce (x_setc (x_setc h 0 0) (x_ce h + 1) (x_so h + 6)) + 1) (x_so (x_setc (x_setc h 0 0) (x_ce h + 1) (x_so h + 6)) + 6)) + 0))
              generalize x_setc g194 (x_ce (x_setc (x_setc (x_setc (x_setc h 0 0) (x_ce h + 1) (x_so h + 6)) 0 0) (x_ce (x_setc (x_setc h 0 0) (x_ce h + 1) (x_so h + 6)) + 1) (x_so (x_setc (x_setc h 0 0) (x_ce h + 1) (x_so h + 6)) + 6)) + 0) (x_so (x_setc (x_setc (x_setc (x_setc h 0 0) (x_ce h + 1) (x_so h + 6)) 0 0) (x_ce (x_setc (x_setc h 0 0) (x_ce h + 1) (x_so h + 6)) + 1) (x_so (x_setc (x_setc h 0 0) (x_ce h + 1) (x_so h + 6)) + 6)) + 0) = h199 at V198 ⊢
              refine q_aload rfl (by decide) ?_
              refine q_callv rfl (by decide) (V198.lv f126) (Nat.le_of_ble_eq_true rfl) (Nat.le_of_ble_eq_true rfl) (by rw [V198.2.2.1]; decide) (by rw [V198.2.2.2]; decide) ?_
              refine xC.up (tv24 (x0 := j125) V198.set f126 (fun o200 g201 hp => ?_)) (by omega)
              obtain ⟨rfl, ⟨v203, rfl, f204⟩⟩ := hp
              show x_seq _ _ _ _ ([.inr (.inr (7, x0)), .inl x1, .inl x2, .inl x3, .inr (.inr (5, j125))], [.inl v203], h199)
              exact q_iret (hZ _ _ (Or.inl ⟨⟨V198.1, V198.2.1⟩, ⟨_, rfl⟩⟩))
            · exact hZ _ _ (Or.inr ⟨hg189, k9, rfl⟩)
      · exact hZ _ _ (Or.inr ⟨hg115, k9, rfl⟩)
    · skip
      refine q_iload rfl ?_
      refine q_call (Nat.le_of_ble_eq_true rfl) (Nat.le_of_ble_eq_true rfl) (by rw [V.2.2.1]; decide) (by rw [V.2.2.2]; decide) ?_
      refine xC.up (tv26 (x0 := x3) V.set  (fun o205 g206 hp => ?_)) (by omega)
      obtain ⟨rfl, ⟨v208, rfl, f209⟩⟩ := hp
      show x_seq _ _ _ _ ([.inr (.inr (7, x0)), .inl x1, .inl x2, .inl x3, .inr (.inr (0, 0))], [.inl v208], h)
      refine v_if_eq (fun d210 => ?_) (fun d210 => ?_)
      · skip
        refine xR.blk c50_27 ?_
        refine v_iconst (k := 0) rfl (fun v211 e212 => ?_)
        refine q_goto ?_
        refine xR.blk c50_28 ?_
        refine q_call (Nat.le_of_ble_eq_true rfl) (Nat.le_of_ble_eq_true rfl) (by rw [V.2.2.1]; decide) (by rw [V.2.2.2]; decide) ?_
        refine xC.up (tv45 (x0 := v211) V.set  (fun o213 g214 hp => ?_)) (by omega)
        rcases hp with ⟨rfl, rfl, f217⟩ | ⟨hg215, k9, rfl⟩
        · skip
          have V218 : VI c 1 6 (x_setc (x_setc h 0 0) (x_ce h + 1) (x_so h + 6)) := VI.after (mc := 1) (ms := 6) V ⟨V.1, V.2.1⟩
          show x_seq _ _ _ _ ([.inr (.inr (7, x0)), .inl x1, .inl x2, .inl x3, .inr (.inr (0, 0))], [], (x_setc (x_setc h 0 0) (x_ce h + 1) (x_so h + 6)))
          refine q_aload rfl (by decide) ?_
          refine v_gfrn V218 (by decide) rfl g0 (fun j219 f220 => ?_)
          refine q_iload rfl ?_
          refine v_aaldn V218 (L' := 3) (by decide) (by decide) rfl f220 (by omega) (by omega) (fun j221 f222 => ?_)
          refine v_gfrn V218 (by decide) rfl f222 (fun j223 f224 => ?_)
          refine q_iload rfl ?_
          refine v_aaldn V218 (L' := 4) (by decide) (by decide) rfl f224 (by omega) (by omega) (fun j225 f226 => ?_)
          refine q_astore (Nat.le_of_ble_eq_true rfl) ?_
          show x_seq _ _ _ _ ([.inr (.inr (7, x0)), .inl x1, .inl x2, .inl x3, .inr (.inr (5, j225))], [], (x_setc (x_setc h 0 0) (x_ce h + 1) (x_so h + 6)))
          refine q_aload rfl (by decide) ?_
          refine q_callv rfl (by decide) (V218.lv f226) (Nat.le_of_ble_eq_true rfl) (Nat.le_of_ble_eq_true rfl) (by rw [V218.2.2.1]; decide) (by rw [V218.2.2.2]; decide) ?_
          refine xC.up (tv24 (x0 := j225) V218.set f226 (fun o227 g228 hp => ?_)) (by omega)
          obtain ⟨rfl, ⟨v230, rfl, f231⟩⟩ := hp
          show x_seq _ _ _ _ ([.inr (.inr (7, x0)), .inl x1, .inl x2, .inl x3, .inr (.inr (5, j225))], [.inl v230], (x_setc (x_setc h 0 0) (x_ce h + 1) (x_so h + 6)))
          refine v_iconst (k := 6) rfl (fun v232 e233 => ?_)
          refine v_icmp_ge (fun d234 => ?_) (fun d234 => ?_)
          · skip
            refine xR.blk c50_71 ?_
            refine v_iconst (k := 0) rfl (fun v235 e236 => ?_)
            refine q_goto ?_
            refine xR.blk c50_72 ?_
            refine q_call (Nat.le_of_ble_eq_true rfl) (Nat.le_of_ble_eq_true rfl) (by rw [V218.2.2.1]; decide) (by rw [V218.2.2.2]; decide) ?_
            refine xC.up (tv46 (x0 := v235) V218.set  (fun o237 g238 hp => ?_)) (by omega)
            rcases hp with ⟨rfl, rfl, f241⟩ | ⟨hg239, k9, rfl⟩
            · skip
              have V242 : VI c 2 12 (x_setc (x_setc (x_setc (x_setc h 0 0) (x_ce h + 1) (x_so h + 6)) 0 0) (x_ce (x_setc (x_setc h 0 0) (x_ce h + 1) (x_so h + 6)) + 1) (x_so (x_setc (x_setc h 0 0) (x_ce h + 1) (x_so h + 6)) + 6)) := VI.after (mc := 1) (ms := 6) V218 ⟨V218.1, V218.2.1⟩
              show x_seq _ _ _ _ ([.inr (.inr (7, x0)), .inl x1, .inl x2, .inl x3, .inr (.inr (5, j225))], [], (x_setc (x_setc (x_setc (x_setc h 0 0) (x_ce h + 1) (x_so h + 6)) 0 0) (x_ce (x_setc (x_setc h 0 0) (x_ce h + 1) (x_so h + 6)) + 1) (x_so (x_setc (x_setc h 0 0) (x_ce h + 1) (x_so h + 6)) + 6)))
              refine q_aload rfl (by decide) ?_
              refine q_iload rfl ?_
              refine q_callv rfl (by decide) (V242.lv f226) (Nat.le_of_ble_eq_true rfl) (Nat.le_of_ble_eq_true rfl) (by rw [V242.2.2.1]; decide) (by rw [V242.2.2.2]; decide) ?_
              refine xC.up (tv37 (x0 := j225) (x1 := x3) V242.set f226 (fun o243 g244 hp => ?_)) (by omega)
              obtain ⟨hg245, rfl⟩ := hp
              have V248 := VI.after (mc := 0) (ms := 0) V242 hg245
              show x_seq _ _ _ _ ([.inr (.inr (7, x0)), .inl x1, .inl x2, .inl x3, .inr (.inr (5, j225))], [], x_setc g244 (x_ce (x_setc (x_setc (x_setc (x_setc h 0 0) (x_ce h + 1) (x_so h + 6)) 0 0) (x_ce (x_setc (x_setc h 0 0) (x_ce h + 1) (x_so h + 6)) + 1) (x_so (x_setc (x_setc h 0 0) (x_ce h + 1) (x_so h + 6)) + 6)) + 0) (x_so (x_setc (x_setc (x_setc (x_setc h 0 0) (x_ce h + 1) (x_so h + 6)) 0 0) (x_ce (x_setc (x_setc h 0 0) (x_ce h + 1) (x_so h + 6)) + 1) (x_so (x_setc (x_setc h 0 0) (x_ce h + 1) (x_so h + 6)) + 6)) + 0))
              generalize x_setc g244 (x_ce (x_setc (x_setc (x_setc (x_setc h 0 0) (x_ce h + 1) (x_so h + 6)) 0 0) (x_ce (x_setc (x_setc h 0 0) (x_ce h + 1) (x_so h + 6)) + 1) (x_so (x_setc (x_setc h 0 0) (x_ce h + 1) (x_so h + 6)) + 6)) + 0) (x_so (x_setc (x_setc (x_setc (x_setc h 0 0) (x_ce h + 1) (x_so h + 6)) 0 0) (x_ce (x_setc (x_setc h 0 0) (x_ce h + 1) (x_so h + 6)) + 1) (x_so (x_setc (x_setc h 0 0) (x_ce h + 1) (x_so h + 6)) + 6)) + 0) = h249 at V248 ⊢
              refine q_aload rfl (by decide) ?_
              refine q_callv rfl (by decide) (V248.lv f226) (Nat.le_of_ble_eq_true rfl) (Nat.le_of_ble_eq_true rfl) (by rw [V248.2.2.1]; decide) (by rw [V248.2.2.2]; decide) ?_
              refine xC.up (tv24 (x0 := j225) V248.set f226 (fun o250 g251 hp => ?_)) (by omega)
              obtain ⟨rfl, ⟨v253, rfl, f254⟩⟩ := hp
              show x_seq _ _ _ _ ([.inr (.inr (7, x0)), .inl x1, .inl x2, .inl x3, .inr (.inr (5, j225))], [.inl v253], h249)
              exact q_iret (hZ _ _ (Or.inl ⟨⟨V248.1, V248.2.1⟩, ⟨_, rfl⟩⟩))
            · exact hZ _ _ (Or.inr ⟨hg239, k9, rfl⟩)
          · skip
            refine q_aload rfl (by decide) ?_
            refine v_gfrn V218 (by decide) rfl g0 (fun j255 f256 => ?_)
            refine q_iload rfl ?_
            refine v_aaldn V218 (L' := 3) (by decide) (by decide) rfl f256 (by omega) (by omega) (fun j257 f258 => ?_)
            refine q_iload rfl ?_
            refine q_callv rfl (by decide) (V218.lv f258) (Nat.le_of_ble_eq_true rfl) (Nat.le_of_ble_eq_true rfl) (by rw [V218.2.2.1]; decide) (by rw [V218.2.2.2]; decide) ?_
            refine xC.up (tv22 (x0 := j257) (x1 := x3) V218.set f258 (fun o259 g260 hp => ?_)) (by omega)
            obtain ⟨rfl, ⟨v262, rfl, f263⟩⟩ := hp
            show x_seq _ _ _ _ ([.inr (.inr (7, x0)), .inl x1, .inl x2, .inl x3, .inr (.inr (5, j225))], [.inl v262], (x_setc (x_setc h 0 0) (x_ce h + 1) (x_so h + 6)))
            refine v_if_ne (fun d264 => ?_) (fun d264 => ?_)
            · skip
              refine xR.blk c50_71 ?_
              refine v_iconst (k := 0) rfl (fun v265 e266 => ?_)
              refine q_goto ?_
              refine xR.blk c50_72 ?_
              refine q_call (Nat.le_of_ble_eq_true rfl) (Nat.le_of_ble_eq_true rfl) (by rw [V218.2.2.1]; decide) (by rw [V218.2.2.2]; decide) ?_
              refine xC.up (tv46 (x0 := v265) V218.set  (fun o267 g268 hp => ?_)) (by omega)
              rcases hp with ⟨rfl, rfl, f271⟩ | ⟨hg269, k9, rfl⟩
              · skip
                have V272 : VI c 2 12 (x_setc (x_setc (x_setc (x_setc h 0 0) (x_ce h + 1) (x_so h + 6)) 0 0) (x_ce (x_setc (x_setc h 0 0) (x_ce h + 1) (x_so h + 6)) + 1) (x_so (x_setc (x_setc h 0 0) (x_ce h + 1) (x_so h + 6)) + 6)) := VI.after (mc := 1) (ms := 6) V218 ⟨V218.1, V218.2.1⟩
                show x_seq _ _ _ _ ([.inr (.inr (7, x0)), .inl x1, .inl x2, .inl x3, .inr (.inr (5, j225))], [], (x_setc (x_setc (x_setc (x_setc h 0 0) (x_ce h + 1) (x_so h + 6)) 0 0) (x_ce (x_setc (x_setc h 0 0) (x_ce h + 1) (x_so h + 6)) + 1) (x_so (x_setc (x_setc h 0 0) (x_ce h + 1) (x_so h + 6)) + 6)))
                refine q_aload rfl (by decide) ?_
                refine q_iload rfl ?_
                refine q_callv rfl (by decide) (V272.lv f226) (Nat.le_of_ble_eq_true rfl) (Nat.le_of_ble_eq_true rfl) (by rw [V272.2.2.1]; decide) (by rw [V272.2.2.2]; decide) ?_
                refine xC.up (tv37 (x0 := j225) (x1 := x3) V272.set f226 (fun o273 g274 hp => ?_)) (by omega)
                obtain ⟨hg275, rfl⟩ := hp
                have V278 := VI.after (mc := 0) (ms := 0) V272 hg275
                show x_seq _ _ _ _ ([.inr (.inr (7, x0)), .inl x1, .inl x2, .inl x3, .inr (.inr (5, j225))], [], x_setc g274 (x_ce (x_setc (x_setc (x_setc (x_setc h 0 0) (x_ce h + 1) (x_so h + 6)) 0 0) (x_ce (x_setc (x_setc h 0 0) (x_ce h + 1) (x_so h + 6)) + 1) (x_so (x_setc (x_setc h 0 0) (x_ce h + 1) (x_so h + 6)) + 6)) + 0) (x_so (x_setc (x_setc (x_setc (x_setc h 0 0) (x_ce h + 1) (x_so h + 6)) 0 0) (x_ce (x_setc (x_setc h 0 0) (x_ce h + 1) (x_so h + 6)) + 1) (x_so (x_setc (x_setc h 0 0) (x_ce h + 1) (x_so h + 6)) + 6)) + 0))
                generalize x_setc g274 (x_ce (x_setc (x_setc (x_setc (x_setc h 0 0) (x_ce h + 1) (x_so h + 6)) 0 0) (x_ce (x_setc (x_setc h 0 0) (x_ce h + 1) (x_so h + 6)) + 1) (x_so (x_setc (x_setc h 0 0) (x_ce h + 1) (x_so h + 6)) + 6)) + 0) (x_so (x_setc (x_setc (x_setc (x_setc h 0 0) (x_ce h + 1) (x_so h + 6)) 0 0) (x_ce (x_setc (x_setc h 0 0) (x_ce h + 1) (x_so h + 6)) + 1) (x_so (x_setc (x_setc h 0 0) (x_ce h + 1) (x_so h + 6)) + 6)) + 0) = h279 at V278 ⊢
                refine q_aload rfl (by decide) ?_
                refine q_callv rfl (by decide) (V278.lv f226) (Nat.le_of_ble_eq_true rfl) (Nat.le_of_ble_eq_true rfl) (by rw [V278.2.2.1]; decide) (by rw [V278.2.2.2]; decide) ?_
                refine xC.up (tv24 (x0 := j225) V278.set f226 (fun o280 g281 hp => ?_)) (by omega)
                obtain ⟨rfl, ⟨v283, rfl, f284⟩⟩ := hp
                show x_seq _ _ _ _ ([.inr (.inr (7, x0)), .inl x1, .inl x2, .inl x3, .inr (.inr (5, j225))], [.inl v283], h279)
                exact q_iret (hZ _ _ (Or.inl ⟨⟨V278.1, V278.2.1⟩, ⟨_, rfl⟩⟩))
              · exact hZ _ _ (Or.inr ⟨hg269, k9, rfl⟩)
            · skip
              refine v_iconst (k := 1) rfl (fun v285 e286 => ?_)
              refine q_goto ?_
              refine xR.blk c50_72 ?_
              refine q_call (Nat.le_of_ble_eq_true rfl) (Nat.le_of_ble_eq_true rfl) (by rw [V218.2.2.1]; decide) (by rw [V218.2.2.2]; decide) ?_
              refine xC.up (tv46 (x0 := v285) V218.set  (fun o287 g288 hp => ?_)) (by omega)
              rcases hp with ⟨rfl, rfl, f291⟩ | ⟨hg289, k9, rfl⟩
              · skip
                have V292 : VI c 2 12 (x_setc (x_setc (x_setc (x_setc h 0 0) (x_ce h + 1) (x_so h + 6)) 0 0) (x_ce (x_setc (x_setc h 0 0) (x_ce h + 1) (x_so h + 6)) + 1) (x_so (x_setc (x_setc h 0 0) (x_ce h + 1) (x_so h + 6)) + 6)) := VI.after (mc := 1) (ms := 6) V218 ⟨V218.1, V218.2.1⟩
                show x_seq _ _ _ _ ([.inr (.inr (7, x0)), .inl x1, .inl x2, .inl x3, .inr (.inr (5, j225))], [], (x_setc (x_setc (x_setc (x_setc h 0 0) (x_ce h + 1) (x_so h + 6)) 0 0) (x_ce (x_setc (x_setc h 0 0) (x_ce h + 1) (x_so h + 6)) + 1) (x_so (x_setc (x_setc h 0 0) (x_ce h + 1) (x_so h + 6)) + 6)))
                refine q_aload rfl (by decide) ?_
                refine q_iload rfl ?_
                refine q_callv rfl (by decide) (V292.lv f226) (Nat.le_of_ble_eq_true rfl) (Nat.le_of_ble_eq_true rfl) (by rw [V292.2.2.1]; decide) (by rw [V292.2.2.2]; decide) ?_
                refine xC.up (tv37 (x0 := j225) (x1 := x3) V292.set f226 (fun o293 g294 hp => ?_)) (by omega)
                obtain ⟨hg295, rfl⟩ := hp
                have V298 := VI.after (mc := 0) (ms := 0) V292 hg295
                show x_seq _ _ _ _ ([.inr (.inr (7, x0)), .inl x1, .inl x2, .inl x3, .inr (.inr (5, j225))], [], x_setc g294 (x_ce (x_setc (x_setc (x_setc (x_setc h 0 0) (x_ce h + 1) (x_so h + 6)) 0 0) (x_ce (x_setc (x_setc h 0 0) (x_ce h + 1) (x_so h + 6)) + 1) (x_so (x_setc (x_setc h 0 0) (x_ce h + 1) (x_so h + 6)) + 6)) + 0) (x_so (x_setc (x_setc (x_setc (x_setc h 0 0) (x_ce h + 1) (x_so h + 6)) 0 0) (x_ce (x_setc (x_setc h 0 0) (x_ce h + 1) (x_so h + 6)) + 1) (x_so (x_setc (x_setc h 0 0) (x_ce h + 1) (x_so h + 6)) + 6)) + 0))
                generalize x_setc g294 (x_ce (x_setc (x_setc (x_setc (x_setc h 0 0) (x_ce h + 1) (x_so h + 6)) 0 0) (x_ce (x_setc (x_setc h 0 0) (x_ce h + 1) (x_so h + 6)) + 1) (x_so (x_setc (x_setc h 0 0) (x_ce h + 1) (x_so h + 6)) + 6)) + 0) (x_so (x_setc (x_setc (x_setc (x_setc h 0 0) (x_ce h + 1) (x_so h + 6)) 0 0) (x_ce (x_setc (x_setc h 0 0) (x_ce h + 1) (x_so h + 6)) + 1) (x_so (x_setc (x_setc h 0 0) (x_ce h + 1) (x_so h + 6)) + 6)) + 0) = h299 at V298 ⊢
                refine q_aload rfl (by decide) ?_
                refine q_callv rfl (by decide) (V298.lv f226) (Nat.le_of_ble_eq_true rfl) (Nat.le_of_ble_eq_true rfl) (by rw [V298.2.2.1]; decide) (by rw [V298.2.2.2]; decide) ?_
                refine xC.up (tv24 (x0 := j225) V298.set f226 (fun o300 g301 hp => ?_)) (by omega)
                obtain ⟨rfl, ⟨v303, rfl, f304⟩⟩ := hp
                show x_seq _ _ _ _ ([.inr (.inr (7, x0)), .inl x1, .inl x2, .inl x3, .inr (.inr (5, j225))], [.inl v303], h299)
                exact q_iret (hZ _ _ (Or.inl ⟨⟨V298.1, V298.2.1⟩, ⟨_, rfl⟩⟩))
              · exact hZ _ _ (Or.inr ⟨hg289, k9, rfl⟩)
        · exact hZ _ _ (Or.inr ⟨hg215, k9, rfl⟩)
      · skip
        refine v_iconst (k := 1) rfl (fun v305 e306 => ?_)
        refine q_goto ?_
        refine xR.blk c50_28 ?_
        refine q_call (Nat.le_of_ble_eq_true rfl) (Nat.le_of_ble_eq_true rfl) (by rw [V.2.2.1]; decide) (by rw [V.2.2.2]; decide) ?_
        refine xC.up (tv45 (x0 := v305) V.set  (fun o307 g308 hp => ?_)) (by omega)
        rcases hp with ⟨rfl, rfl, f311⟩ | ⟨hg309, k9, rfl⟩
        · skip
          have V312 : VI c 1 6 (x_setc (x_setc h 0 0) (x_ce h + 1) (x_so h + 6)) := VI.after (mc := 1) (ms := 6) V ⟨V.1, V.2.1⟩
          show x_seq _ _ _ _ ([.inr (.inr (7, x0)), .inl x1, .inl x2, .inl x3, .inr (.inr (0, 0))], [], (x_setc (x_setc h 0 0) (x_ce h + 1) (x_so h + 6)))
          refine q_aload rfl (by decide) ?_
          refine v_gfrn V312 (by decide) rfl g0 (fun j313 f314 => ?_)
          refine q_iload rfl ?_
          refine v_aaldn V312 (L' := 3) (by decide) (by decide) rfl f314 (by omega) (by omega) (fun j315 f316 => ?_)
          refine v_gfrn V312 (by decide) rfl f316 (fun j317 f318 => ?_)
          refine q_iload rfl ?_
          refine v_aaldn V312 (L' := 4) (by decide) (by decide) rfl f318 (by omega) (by omega) (fun j319 f320 => ?_)
          refine q_astore (Nat.le_of_ble_eq_true rfl) ?_
          show x_seq _ _ _ _ ([.inr (.inr (7, x0)), .inl x1, .inl x2, .inl x3, .inr (.inr (5, j319))], [], (x_setc (x_setc h 0 0) (x_ce h + 1) (x_so h + 6)))
          refine q_aload rfl (by decide) ?_
          refine q_callv rfl (by decide) (V312.lv f320) (Nat.le_of_ble_eq_true rfl) (Nat.le_of_ble_eq_true rfl) (by rw [V312.2.2.1]; decide) (by rw [V312.2.2.2]; decide) ?_
          refine xC.up (tv24 (x0 := j319) V312.set f320 (fun o321 g322 hp => ?_)) (by omega)
          obtain ⟨rfl, ⟨v324, rfl, f325⟩⟩ := hp
          show x_seq _ _ _ _ ([.inr (.inr (7, x0)), .inl x1, .inl x2, .inl x3, .inr (.inr (5, j319))], [.inl v324], (x_setc (x_setc h 0 0) (x_ce h + 1) (x_so h + 6)))
          refine v_iconst (k := 6) rfl (fun v326 e327 => ?_)
          refine v_icmp_ge (fun d328 => ?_) (fun d328 => ?_)
          · skip
            refine xR.blk c50_71 ?_
            refine v_iconst (k := 0) rfl (fun v329 e330 => ?_)
            refine q_goto ?_
            refine xR.blk c50_72 ?_
            refine q_call (Nat.le_of_ble_eq_true rfl) (Nat.le_of_ble_eq_true rfl) (by rw [V312.2.2.1]; decide) (by rw [V312.2.2.2]; decide) ?_
            refine xC.up (tv46 (x0 := v329) V312.set  (fun o331 g332 hp => ?_)) (by omega)
            rcases hp with ⟨rfl, rfl, f335⟩ | ⟨hg333, k9, rfl⟩
            · skip
              have V336 : VI c 2 12 (x_setc (x_setc (x_setc (x_setc h 0 0) (x_ce h + 1) (x_so h + 6)) 0 0) (x_ce (x_setc (x_setc h 0 0) (x_ce h + 1) (x_so h + 6)) + 1) (x_so (x_setc (x_setc h 0 0) (x_ce h + 1) (x_so h + 6)) + 6)) := VI.after (mc := 1) (ms := 6) V312 ⟨V312.1, V312.2.1⟩
              show x_seq _ _ _ _ ([.inr (.inr (7, x0)), .inl x1, .inl x2, .inl x3, .inr (.inr (5, j319))], [], (x_setc (x_setc (x_setc (x_setc h 0 0) (x_ce h + 1) (x_so h + 6)) 0 0) (x_ce (x_setc (x_setc h 0 0) (x_ce h + 1) (x_so h + 6)) + 1) (x_so (x_setc (x_setc h 0 0) (x_ce h + 1) (x_so h + 6)) + 6)))
              refine q_aload rfl (by decide) ?_
              refine q_iload rfl ?_
              refine q_callv rfl (by decide) (V336.lv f320) (Nat.le_of_ble_eq_true rfl) (Nat.le_of_ble_eq_true rfl) (by rw [V336.2.2.1]; decide) (by rw [V336.2.2.2]; decide) ?_
              refine xC.up (tv37 (x0 := j319) (x1 := x3) V336.set f320 (fun o337 g338 hp => ?_)) (by omega)
              obtain ⟨hg339, rfl⟩ := hp
              have V342 := VI.after (mc := 0) (ms := 0) V336 hg339
              show x_seq _ _ _ _ ([.inr (.inr (7, x0)), .inl x1, .inl x2, .inl x3, .inr (.inr (5, j319))], [], x_setc g338 (x_ce (x_setc (x_setc (x_setc (x_setc h 0 0) (x_ce h + 1) (x_so h + 6)) 0 0) (x_ce (x_setc (x_setc h 0 0) (x_ce h + 1) (x_so h + 6)) + 1) (x_so (x_setc (x_setc h 0 0) (x_ce h + 1) (x_so h + 6)) + 6)) + 0) (x_so (x_setc (x_setc (x_setc (x_setc h 0 0) (x_ce h + 1) (x_so h + 6)) 0 0) (x_ce (x_setc (x_setc h 0 0) (x_ce h + 1) (x_so h + 6)) + 1) (x_so (x_setc (x_setc h 0 0) (x_ce h + 1) (x_so h + 6)) + 6)) + 0))
              generalize x_setc g338 (x_ce (x_setc (x_setc (x_setc (x_setc h 0 0) (x_ce h + 1) (x_so h + 6)) 0 0) (x_ce (x_setc (x_setc h 0 0) (x_ce h + 1) (x_so h + 6)) + 1) (x_so (x_setc (x_setc h 0 0) (x_ce h + 1) (x_so h + 6)) + 6)) + 0) (x_so (x_setc (x_setc (x_setc (x_setc h 0 0) (x_ce h + 1) (x_so h + 6)) 0 0) (x_ce (x_setc (x_setc h 0 0) (x_ce h + 1) (x_so h + 6)) + 1) (x_so (x_setc (x_setc h 0 0) (x_ce h + 1) (x_so h + 6)) + 6)) + 0) = h343 at V342 ⊢
              refine q_aload rfl (by decide) ?_
              refine q_callv rfl (by decide) (V342.lv f320) (Nat.le_of_ble_eq_true rfl) (Nat.le_of_ble_eq_true rfl) (by rw [V342.2.2.1]; decide) (by rw [V342.2.2.2]; decide) ?_
              refine xC.up (tv24 (x0 := j319) V342.set f320 (fun o344 g345 hp => ?_)) (by omega)
              obtain ⟨rfl, ⟨v347, rfl, f348⟩⟩ := hp
              show x_seq _ _ _ _ ([.inr (.inr (7, x0)), .inl x1, .inl x2, .inl x3, .inr (.inr (5, j319))], [.inl v347], h343)
              exact q_iret (hZ _ _ (Or.inl ⟨⟨V342.1, V342.2.1⟩, ⟨_, rfl⟩⟩))
            · exact hZ _ _ (Or.inr ⟨hg333, k9, rfl⟩)
          · skip
            refine q_aload rfl (by decide) ?_
            refine v_gfrn V312 (by decide) rfl g0 (fun j349 f350 => ?_)
            refine q_iload rfl ?_
            refine v_aaldn V312 (L' := 3) (by decide) (by decide) rfl f350 (by omega) (by omega) (fun j351 f352 => ?_)
            refine q_iload rfl ?_
            refine q_callv rfl (by decide) (V312.lv f352) (Nat.le_of_ble_eq_true rfl) (Nat.le_of_ble_eq_true rfl) (by rw [V312.2.2.1]; decide) (by rw [V312.2.2.2]; decide) ?_
            refine xC.up (tv22 (x0 := j351) (x1 := x3) V312.set f352 (fun o353 g354 hp => ?_)) (by omega)
            obtain ⟨rfl, ⟨v356, rfl, f357⟩⟩ := hp
            show x_seq _ _ _ _ ([.inr (.inr (7, x0)), .inl x1, .inl x2, .inl x3, .inr (.inr (5, j319))], [.inl v356], (x_setc (x_setc h 0 0) (x_ce h + 1) (x_so h + 6)))
            refine v_if_ne (fun d358 => ?_) (fun d358 => ?_)
            · skip
              refine xR.blk c50_71 ?_
              refine v_iconst (k := 0) rfl (fun v359 e360 => ?_)
              refine q_goto ?_
              refine xR.blk c50_72 ?_
              refine q_call (Nat.le_of_ble_eq_true rfl) (Nat.le_of_ble_eq_true rfl) (by rw [V312.2.2.1]; decide) (by rw [V312.2.2.2]; decide) ?_
              refine xC.up (tv46 (x0 := v359) V312.set  (fun o361 g362 hp => ?_)) (by omega)
              rcases hp with ⟨rfl, rfl, f365⟩ | ⟨hg363, k9, rfl⟩
              · skip
                have V366 : VI c 2 12 (x_setc (x_setc (x_setc (x_setc h 0 0) (x_ce h + 1) (x_so h + 6)) 0 0) (x_ce (x_setc (x_setc h 0 0) (x_ce h + 1) (x_so h + 6)) + 1) (x_so (x_setc (x_setc h 0 0) (x_ce h + 1) (x_so h + 6)) + 6)) := VI.after (mc := 1) (ms := 6) V312 ⟨V312.1, V312.2.1⟩
                show x_seq _ _ _ _ ([.inr (.inr (7, x0)), .inl x1, .inl x2, .inl x3, .inr (.inr (5, j319))], [], (x_setc (x_setc (x_setc (x_setc h 0 0) (x_ce h + 1) (x_so h + 6)) 0 0) (x_ce (x_setc (x_setc h 0 0) (x_ce h + 1) (x_so h + 6)) + 1) (x_so (x_setc (x_setc h 0 0) (x_ce h + 1) (x_so h + 6)) + 6)))
                refine q_aload rfl (by decide) ?_
                refine q_iload rfl ?_
                refine q_callv rfl (by decide) (V366.lv f320) (Nat.le_of_ble_eq_true rfl) (Nat.le_of_ble_eq_true rfl) (by rw [V366.2.2.1]; decide) (by rw [V366.2.2.2]; decide) ?_
                refine xC.up (tv37 (x0 := j319) (x1 := x3) V366.set f320 (fun o367 g368 hp => ?_)) (by omega)
                obtain ⟨hg369, rfl⟩ := hp
                have V372 := VI.after (mc := 0) (ms := 0) V366 hg369
                show x_seq _ _ _ _ ([.inr (.inr (7, x0)), .inl x1, .inl x2, .inl x3, .inr (.inr (5, j319))], [], x_setc g368 (x_ce (x_setc (x_setc (x_setc (x_setc h 0 0) (x_ce h + 1) (x_so h + 6)) 0 0) (x_ce (x_setc (x_setc h 0 0) (x_ce h + 1) (x_so h + 6)) + 1) (x_so (x_setc (x_setc h 0 0) (x_ce h + 1) (x_so h + 6)) + 6)) + 0) (x_so (x_setc (x_setc (x_setc (x_setc h 0 0) (x_ce h + 1) (x_so h + 6)) 0 0) (x_ce (x_setc (x_setc h 0 0) (x_ce h + 1) (x_so h + 6)) + 1) (x_so (x_setc (x_setc h 0 0) (x_ce h + 1) (x_so h + 6)) + 6)) + 0))
                generalize x_setc g368 (x_ce (x_setc (x_setc (x_setc (x_setc h 0 0) (x_ce h + 1) (x_so h + 6)) 0 0) (x_ce (x_setc (x_setc h 0 0) (x_ce h + 1) (x_so h + 6)) + 1) (x_so (x_setc (x_setc h 0 0) (x_ce h + 1) (x_so h + 6)) + 6)) + 0) (x_so (x_setc (x_setc (x_setc (x_setc h 0 0) (x_ce h + 1) (x_so h + 6)) 0 0) (x_ce (x_setc (x_setc h 0 0) (x_ce h + 1) (x_so h + 6)) + 1) (x_so (x_setc (x_setc h 0 0) (x_ce h + 1) (x_so h + 6)) + 6)) + 0) = h373 at V372 ⊢
                refine q_aload rfl (by decide) ?_
                refine q_callv rfl (by decide) (V372.lv f320) (Nat.le_of_ble_eq_true rfl) (Nat.le_of_ble_eq_true rfl) (by rw [V372.2.2.1]; decide) (by rw [V372.2.2.2]; decide) ?_
                refine xC.up (tv24 (x0 := j319) V372.set f320 (fun o374 g375 hp => ?_)) (by omega)
                obtain ⟨rfl, ⟨v377, rfl, f378⟩⟩ := hp
                show x_seq _ _ _ _ ([.inr (.inr (7, x0)), .inl x1, .inl x2, .inl x3, .inr (.inr (5, j319))], [.inl v377], h373)
                exact q_iret (hZ _ _ (Or.inl ⟨⟨V372.1, V372.2.1⟩, ⟨_, rfl⟩⟩))
              · exact hZ _ _ (Or.inr ⟨hg363, k9, rfl⟩)
            · skip
              refine v_iconst (k := 1) rfl (fun v379 e380 => ?_)
              refine q_goto ?_
              refine xR.blk c50_72 ?_
              refine q_call (Nat.le_of_ble_eq_true rfl) (Nat.le_of_ble_eq_true rfl) (by rw [V312.2.2.1]; decide) (by rw [V312.2.2.2]; decide) ?_
              refine xC.up (tv46 (x0 := v379) V312.set  (fun o381 g382 hp => ?_)) (by omega)
              rcases hp with ⟨rfl, rfl, f385⟩ | ⟨hg383, k9, rfl⟩
              · skip
                have V386 : VI c 2 12 (x_setc (x_setc (x_setc (x_setc h 0 0) (x_ce h + 1) (x_so h + 6)) 0 0) (x_ce (x_setc (x_setc h 0 0) (x_ce h + 1) (x_so h + 6)) + 1) (x_so (x_setc (x_setc h 0 0) (x_ce h + 1) (x_so h + 6)) + 6)) := VI.after (mc := 1) (ms := 6) V312 ⟨V312.1, V312.2.1⟩
                show x_seq _ _ _ _ ([.inr (.inr (7, x0)), .inl x1, .inl x2, .inl x3, .inr (.inr (5, j319))], [], (x_setc (x_setc (x_setc (x_setc h 0 0) (x_ce h + 1) (x_so h + 6)) 0 0) (x_ce (x_setc (x_setc h 0 0) (x_ce h + 1) (x_so h + 6)) + 1) (x_so (x_setc (x_setc h 0 0) (x_ce h + 1) (x_so h + 6)) + 6)))
                refine q_aload rfl (by decide) ?_
                refine q_iload rfl ?_
                refine q_callv rfl (by decide) (V386.lv f320) (Nat.le_of_ble_eq_true rfl) (Nat.le_of_ble_eq_true rfl) (by rw [V386.2.2.1]; decide) (by rw [V386.2.2.2]; decide) ?_
                refine xC.up (tv37 (x0 := j319) (x1 := x3) V386.set f320 (fun o387 g388 hp => ?_)) (by omega)
                obtain ⟨hg389, rfl⟩ := hp
                have V392 := VI.after (mc := 0) (ms := 0) V386 hg389
                show x_seq _ _ _ _ ([.inr (.inr (7, x0)), .inl x1, .inl x2, .inl x3, .inr (.inr (5, j319))], [], x_setc g388 (x_ce (x_setc (x_setc (x_setc (x_setc h 0 0) (x_ce h + 1) (x_so h + 6)) 0 0) (x_ce (x_setc (x_setc h 0 0) (x_ce h + 1) (x_so h + 6)) + 1) (x_so (x_setc (x_setc h 0 0) (x_ce h + 1) (x_so h + 6)) + 6)) + 0) (x_so (x_setc (x_setc (x_setc (x_setc h 0 0) (x_ce h + 1) (x_so h + 6)) 0 0) (x_ce (x_setc (x_setc h 0 0) (x_ce h + 1) (x_so h + 6)) + 1) (x_so (x_setc (x_setc h 0 0) (x_ce h + 1) (x_so h + 6)) + 6)) + 0))
                generalize x_setc g388 (x_ce (x_setc (x_setc (x_setc (x_setc h 0 0) (x_ce h + 1) (x_so h + 6)) 0 0) (x_ce (x_setc (x_setc h 0 0) (x_ce h + 1) (x_so h + 6)) + 1) (x_so (x_setc (x_setc h 0 0) (x_ce h + 1) (x_so h + 6)) + 6)) + 0) (x_so (x_setc (x_setc (x_setc (x_setc h 0 0) (x_ce h + 1) (x_so h + 6)) 0 0) (x_ce (x_setc (x_setc h 0 0) (x_ce h + 1) (x_so h + 6)) + 1) (x_so (x_setc (x_setc h 0 0) (x_ce h + 1) (x_so h + 6)) + 6)) + 0) = h393 at V392 ⊢
                refine q_aload rfl (by decide) ?_
                refine q_callv rfl (by decide) (V392.lv f320) (Nat.le_of_ble_eq_true rfl) (Nat.le_of_ble_eq_true rfl) (by rw [V392.2.2.1]; decide) (by rw [V392.2.2.2]; decide) ?_
                refine xC.up (tv24 (x0 := j319) V392.set f320 (fun o394 g395 hp => ?_)) (by omega)
                obtain ⟨rfl, ⟨v397, rfl, f398⟩⟩ := hp
                show x_seq _ _ _ _ ([.inr (.inr (7, x0)), .inl x1, .inl x2, .inl x3, .inr (.inr (5, j319))], [.inl v397], h393)
                exact q_iret (hZ _ _ (Or.inl ⟨⟨V392.1, V392.2.1⟩, ⟨_, rfl⟩⟩))
              · exact hZ _ _ (Or.inr ⟨hg383, k9, rfl⟩)
        · exact hZ _ _ (Or.inr ⟨hg309, k9, rfl⟩)
theorem tv51 {c : xP} {h : xH} {Z : xO → xH → Prop} {x0 : Nat} {x1 : Int32} {x2 : Int32} (V : VI c 0 0 h) (g0 : L c 7 x0) (hZ : ∀ (o : xO) (g : xH), ((CI g ∧ x_pj g = c) ∧ (∃ j : Nat, o = .inl (some (.inr (.inr (2, j)))) ∧ L c 2 j ∧ (0 ≤ x1.toInt ∧ x1.toInt ≤ 2 ∧ 0 ≤ x2.toInt ∧ x2.toInt ≤ 23))) ∨ ((CI g ∧ x_pj g = c) ∧ ∃ k, o = .inr k) → Z o g) : xC 30 51 [.inr (.inr (7, x0)), .inl x1, .inl x2] h Z := by
  refine ⟨rfl, V.2.2.1, V.2.2.2, ?_⟩
  show xR _ 51 0 ([.inr (.inr (7, x0)), .inl x1, .inl x2], [], h) Z
  refine xR.blk c51_0 ?_
  refine q_iload rfl ?_
  refine q_call (Nat.le_of_ble_eq_true rfl) (Nat.le_of_ble_eq_true rfl) (by rw [V.2.2.1]; decide) (by rw [V.2.2.2]; decide) ?_
  refine xC.up (tv44 (x0 := x1) V.set  (fun o1 g2 hp => ?_)) (by omega)
  obtain ⟨rfl, ⟨v4, rfl, f5⟩⟩ := hp
  show x_seq _ _ _ _ ([.inr (.inr (7, x0)), .inl x1, .inl x2], [.inl v4], h)
  refine v_if_eq (fun d6 => ?_) (fun d6 => ?_)
  · skip
    refine xR.blk c51_18 ?_
    refine v_iconst (k := 0) rfl (fun v7 e8 => ?_)
    refine q_goto ?_
    refine xR.blk c51_19 ?_
    refine q_call (Nat.le_of_ble_eq_true rfl) (Nat.le_of_ble_eq_true rfl) (by rw [V.2.2.1]; decide) (by rw [V.2.2.2]; decide) ?_
    refine xC.up (tv45 (x0 := v7) V.set  (fun o9 g10 hp => ?_)) (by omega)
    rcases hp with ⟨rfl, rfl, f13⟩ | ⟨hg11, k9, rfl⟩
    · skip
      have V14 : VI c 1 6 (x_setc (x_setc h 0 0) (x_ce h + 1) (x_so h + 6)) := VI.after (mc := 1) (ms := 6) V ⟨V.1, V.2.1⟩
      show x_seq _ _ _ _ ([.inr (.inr (7, x0)), .inl x1, .inl x2], [], (x_setc (x_setc h 0 0) (x_ce h + 1) (x_so h + 6)))
      refine q_aload rfl (by decide) ?_
      refine v_gfrn V14 (by decide) rfl g0 (fun j15 f16 => ?_)
      refine q_iload rfl ?_
      refine v_aaldn V14 (L' := 3) (by decide) (by decide) rfl f16 (by omega) (by omega) (fun j17 f18 => ?_)
      refine v_gfrn V14 (by decide) rfl f18 (fun j19 f20 => ?_)
      refine q_iload rfl ?_
      refine v_aaldn V14 (L' := 24) (by decide) (by decide) rfl f20 (by omega) (by omega) (fun j21 f22 => ?_)
      exact q_aret (hZ _ _ (Or.inl ⟨⟨V14.1, V14.2.1⟩, ⟨_, rfl, f22, by omega⟩⟩))
    · exact hZ _ _ (Or.inr ⟨hg11, k9, rfl⟩)
  · skip
    refine q_iload rfl ?_
    refine q_call (Nat.le_of_ble_eq_true rfl) (Nat.le_of_ble_eq_true rfl) (by rw [V.2.2.1]; decide) (by rw [V.2.2.2]; decide) ?_
    refine xC.up (tv26 (x0 := x2) V.set  (fun o23 g24 hp => ?_)) (by omega)
    obtain ⟨rfl, ⟨v26, rfl, f27⟩⟩ := hp
    show x_seq _ _ _ _ ([.inr (.inr (7, x0)), .inl x1, .inl x2], [.inl v26], h)
    refine v_if_eq (fun d28 => ?_) (fun d28 => ?_)
    · skip
      refine xR.blk c51_18 ?_
      refine v_iconst (k := 0) rfl (fun v29 e30 => ?_)
      refine q_goto ?_
      refine xR.blk c51_19 ?_
      refine q_call (Nat.le_of_ble_eq_true rfl) (Nat.le_of_ble_eq_true rfl) (by rw [V.2.2.1]; decide) (by rw [V.2.2.2]; decide) ?_
      refine xC.up (tv45 (x0 := v29) V.set  (fun o31 g32 hp => ?_)) (by omega)
      rcases hp with ⟨rfl, rfl, f35⟩ | ⟨hg33, k9, rfl⟩
      · skip
        have V36 : VI c 1 6 (x_setc (x_setc h 0 0) (x_ce h + 1) (x_so h + 6)) := VI.after (mc := 1) (ms := 6) V ⟨V.1, V.2.1⟩
        show x_seq _ _ _ _ ([.inr (.inr (7, x0)), .inl x1, .inl x2], [], (x_setc (x_setc h 0 0) (x_ce h + 1) (x_so h + 6)))
        refine q_aload rfl (by decide) ?_
        refine v_gfrn V36 (by decide) rfl g0 (fun j37 f38 => ?_)
        refine q_iload rfl ?_
        refine v_aaldn V36 (L' := 3) (by decide) (by decide) rfl f38 (by omega) (by omega) (fun j39 f40 => ?_)
        refine v_gfrn V36 (by decide) rfl f40 (fun j41 f42 => ?_)
        refine q_iload rfl ?_
        refine v_aaldn V36 (L' := 24) (by decide) (by decide) rfl f42 (by omega) (by omega) (fun j43 f44 => ?_)
        exact q_aret (hZ _ _ (Or.inl ⟨⟨V36.1, V36.2.1⟩, ⟨_, rfl, f44, by omega⟩⟩))
      · exact hZ _ _ (Or.inr ⟨hg33, k9, rfl⟩)
    · skip
      refine v_iconst (k := 1) rfl (fun v45 e46 => ?_)
      refine q_goto ?_
      refine xR.blk c51_19 ?_
      refine q_call (Nat.le_of_ble_eq_true rfl) (Nat.le_of_ble_eq_true rfl) (by rw [V.2.2.1]; decide) (by rw [V.2.2.2]; decide) ?_
      refine xC.up (tv45 (x0 := v45) V.set  (fun o47 g48 hp => ?_)) (by omega)
      rcases hp with ⟨rfl, rfl, f51⟩ | ⟨hg49, k9, rfl⟩
      · skip
        have V52 : VI c 1 6 (x_setc (x_setc h 0 0) (x_ce h + 1) (x_so h + 6)) := VI.after (mc := 1) (ms := 6) V ⟨V.1, V.2.1⟩
        show x_seq _ _ _ _ ([.inr (.inr (7, x0)), .inl x1, .inl x2], [], (x_setc (x_setc h 0 0) (x_ce h + 1) (x_so h + 6)))
        refine q_aload rfl (by decide) ?_
        refine v_gfrn V52 (by decide) rfl g0 (fun j53 f54 => ?_)
        refine q_iload rfl ?_
        refine v_aaldn V52 (L' := 3) (by decide) (by decide) rfl f54 (by omega) (by omega) (fun j55 f56 => ?_)
        refine v_gfrn V52 (by decide) rfl f56 (fun j57 f58 => ?_)
        refine q_iload rfl ?_
        refine v_aaldn V52 (L' := 24) (by decide) (by decide) rfl f58 (by omega) (by omega) (fun j59 f60 => ?_)
        exact q_aret (hZ _ _ (Or.inl ⟨⟨V52.1, V52.2.1⟩, ⟨_, rfl, f60, by omega⟩⟩))
      · exact hZ _ _ (Or.inr ⟨hg49, k9, rfl⟩)
theorem tv52 {c : xP} {h : xH} {Z : xO → xH → Prop} {x0 : Nat} {x1 : Int32} {x2 : Nat} (V : VI c 0 0 h) (g0 : L c 7 x0) (g2 : x2 ≤ c.1 1) (hZ : ∀ (o : xO) (g : xH), (CI g ∧ x_pj g = c) ∧ (o = .inl none) → Z o g) : xC 20 52 [.inr (.inr (7, x0)), .inl x1, .inr (.inr (1, x2))] h Z := by
  refine ⟨rfl, V.2.2.1, V.2.2.2, ?_⟩
  show xR _ 52 0 ([.inr (.inr (7, x0)), .inl x1, .inr (.inr (1, x2)), .inr (.inr (0, 0)), .inr (.inr (0, 0))], [], h) Z
  refine xR.blk c52_0 ?_
  refine q_iload rfl ?_
  refine v_iconst (k := 1000) rfl (fun v1 e2 => ?_)
  refine v_idivc e2 (by decide) (fun v3 e4 => ?_)
  refine q_istore (Nat.le_of_ble_eq_true rfl) ?_
  show x_seq _ _ _ _ ([.inr (.inr (7, x0)), .inl x1, .inr (.inr (1, x2)), .inl v3, .inr (.inr (0, 0))], [], h)
  refine q_iload rfl ?_
  refine v_iconst (k := 1000) rfl (fun v5 e6 => ?_)
  refine v_iremc e6 (by decide) (fun v7 e8 => ?_)
  refine q_istore (Nat.le_of_ble_eq_true rfl) ?_
  show x_seq _ _ _ _ ([.inr (.inr (7, x0)), .inl x1, .inr (.inr (1, x2)), .inl v3, .inl v7], [], h)
  refine q_iload rfl ?_
  refine v_iconst (k := 5000) rfl (fun v9 e10 => ?_)
  refine v_icmp_lt (fun d11 => ?_) (fun d11 => ?_)
  · skip
    refine xR.blk c52_49 ?_
    refine q_iload rfl ?_
    refine v_if_lt (fun d12 => ?_) (fun d12 => ?_)
    · skip
      refine xR.blk c52_78 ?_
      exact q_ret (hZ _ _ ⟨⟨V.1, V.2.1⟩, rfl⟩)
    · skip
      refine q_iload rfl ?_
      refine v_iconst (k := 3) rfl (fun v13 e14 => ?_)
      refine v_icmp_ge (fun d15 => ?_) (fun d15 => ?_)
      · skip
        refine xR.blk c52_78 ?_
        exact q_ret (hZ _ _ ⟨⟨V.1, V.2.1⟩, rfl⟩)
      · skip
        refine q_iload rfl ?_
        refine v_iconst (k := 33) rfl (fun v16 e17 => ?_)
        refine v_icmp_ge (fun d18 => ?_) (fun d18 => ?_)
        · skip
          refine xR.blk c52_78 ?_
          exact q_ret (hZ _ _ ⟨⟨V.1, V.2.1⟩, rfl⟩)
        · skip
          refine q_aload rfl (by decide) ?_
          refine v_gfrn V (by decide) rfl g0 (fun j19 f20 => ?_)
          refine q_iload rfl ?_
          refine v_aaldn V (L' := 3) (by decide) (by decide) rfl f20 (by omega) (by omega) (fun j21 f22 => ?_)
          refine v_gfrn V (by decide) rfl f22 (fun j23 f24 => ?_)
          refine q_iload rfl ?_
          refine q_aload rfl (by decide) ?_
          refine v_aast17 V f24 (by omega) (by omega) g2 (fun h25 V26 => ?_)
          refine q_goto ?_
          refine xR.blk c52_78 ?_
          exact q_ret (hZ _ _ ⟨⟨V26.1, V26.2.1⟩, rfl⟩)
  · skip
    refine q_iload rfl ?_
    refine v_iconst (k := 5000) rfl (fun v27 e28 => ?_)
    refine v_isub (by have b8 := Int32.toInt_lt x1; have b9 := Int32.toInt_lt v27; omega) (fun v29 e30 => ?_)
    refine q_aload rfl (by decide) ?_
    refine q_gfi (V.lv g0) ?_
    have e31 : 0 ≤ (x_vi h 7 4 x0).toInt ∧ (x_vi h 7 4 x0).toInt ≤ 16 := V.rg (K := 7) (k := 4) (lo := 0) (hi := 16) (by decide) g0
    refine v_icmp_ge (fun d32 => ?_) (fun d32 => ?_)
    · skip
      refine xR.blk c52_78 ?_
      exact q_ret (hZ _ _ ⟨⟨V.1, V.2.1⟩, rfl⟩)
    · skip
      refine q_aload rfl (by decide) ?_
      refine q_gfr (V.lv g0) ?_
      refine q_iload rfl ?_
      refine v_iconst (k := 5000) rfl (fun v33 e34 => ?_)
      refine v_isub (by have b8 := Int32.toInt_lt x1; have b9 := Int32.toInt_lt v33; omega) (fun v35 e36 => ?_)
      refine q_aald (V.lv (V.nn (K := 7) (k := 2) (by decide) g0)) (V.inn (L' := 16) (by decide) (V.nn (K := 7) (k := 2) (by decide) g0) (by omega) (by omega)) ?_
      have f38 : L c 6 (x_vr h 13 (x_vr h 7 2 x0) v35.toNatClampNeg) := V.of (V.1.2.2.2.2.2.2.2.1 x0 v35.toNatClampNeg (V.lv g0) (by have h9 := x_clamp (n := v35) (by omega); show (_ : Int) < (x_vi h 7 4 x0).toInt; omega))
      refine q_aload rfl (by decide) ?_
      refine v_pfr V (by decide) rfl f38 g2 rfl (fun h39 V40 => ?_)
      refine q_goto ?_
      refine xR.blk c52_78 ?_
      exact q_ret (hZ _ _ ⟨⟨V40.1, V40.2.1⟩, rfl⟩)
theorem tv53 {c : xP} {h : xH} {Z : xO → xH → Prop} {x0 : Nat} {x1 : Nat} {x2 : Int32} (V : VI c 0 0 h) (g0 : L c 7 x0) (g1 : L c 1 x1) (hZ : ∀ (o : xO) (g : xH), (CI g ∧ x_pj g = c) ∧ (o = .inl none) → Z o g) : xC 40 53 [.inr (.inr (7, x0)), .inr (.inr (1, x1)), .inl x2] h Z := by
  refine ⟨rfl, V.2.2.1, V.2.2.2, ?_⟩
  show xR _ 53 0 ([.inr (.inr (7, x0)), .inr (.inr (1, x1)), .inl x2], [], h) Z
  refine xR.blk c53_0 ?_
  refine q_aload rfl (by decide) ?_
  refine q_iload rfl ?_
  refine q_aload rfl (by decide) ?_
  refine q_callv rfl (by decide) (V.lv g0) (Nat.le_of_ble_eq_true rfl) (Nat.le_of_ble_eq_true rfl) (by rw [V.2.2.1]; decide) (by rw [V.2.2.2]; decide) ?_
  refine xC.up (tv52 (x0 := x0) (x1 := x2) (x2 := x1) V.set g0 g1.2 (fun o1 g2 hp => ?_)) (by omega)
  obtain ⟨hg3, rfl⟩ := hp
  have V6 := VI.after (mc := 0) (ms := 0) V hg3
  show x_seq _ _ _ _ ([.inr (.inr (7, x0)), .inr (.inr (1, x1)), .inl x2], [], x_setc g2 (x_ce h + 0) (x_so h + 0))
  generalize x_setc g2 (x_ce h + 0) (x_so h + 0) = h7 at V6 ⊢
  refine q_aload rfl (by decide) ?_
  refine v_gfrn V6 (by decide) rfl g1 (fun j8 f9 => ?_)
  refine q_iload rfl ?_
  refine q_callv rfl (by decide) (V6.lv f9) (Nat.le_of_ble_eq_true rfl) (Nat.le_of_ble_eq_true rfl) (by rw [V6.2.2.1]; decide) (by rw [V6.2.2.2]; decide) ?_
  refine xC.up (tv37 (x0 := j8) (x1 := x2) V6.set f9 (fun o10 g11 hp => ?_)) (by omega)
  obtain ⟨hg12, rfl⟩ := hp
  have V15 := VI.after (mc := 0) (ms := 0) V6 hg12
  show x_seq _ _ _ _ ([.inr (.inr (7, x0)), .inr (.inr (1, x1)), .inl x2], [], x_setc g11 (x_ce h7 + 0) (x_so h7 + 0))
  generalize x_setc g11 (x_ce h7 + 0) (x_so h7 + 0) = h16 at V15 ⊢
  exact q_ret (hZ _ _ ⟨⟨V15.1, V15.2.1⟩, rfl⟩)
theorem tv54 {c : xP} {h : xH} {Z : xO → xH → Prop} {x0 : Nat} {x1 : Nat} {x2 : Nat} {x3 : Int32} (V : VI c 0 0 h) (g0 : L c 7 x0) (g1 : L c 3 x1) (g2 : L c 2 x2) (hZ : ∀ (o : xO) (g : xH), (CI g ∧ x_pj g = c) ∧ (o = .inl none) → Z o g) : xC 100 54 [.inr (.inr (7, x0)), .inr (.inr (3, x1)), .inr (.inr (2, x2)), .inl x3] h Z := by
  refine ⟨rfl, V.2.2.1, V.2.2.2, ?_⟩
  show xR _ 54 0 ([.inr (.inr (7, x0)), .inr (.inr (3, x1)), .inr (.inr (2, x2)), .inl x3, .inr (.inr (0, 0))], [], h) Z
  refine xR.blk c54_0 ?_
  refine q_aload rfl (by decide) ?_
  refine v_gfrn V (by decide) rfl g0 (fun j1 f2 => ?_)
  refine q_aload rfl (by decide) ?_
  refine q_callv rfl (by decide) (V.lv g2) (Nat.le_of_ble_eq_true rfl) (Nat.le_of_ble_eq_true rfl) (by rw [V.2.2.1]; decide) (by rw [V.2.2.2]; decide) ?_
  refine xC.up (tv9 (x0 := x2) V.set g2 (fun o3 g4 hp => ?_)) (by omega)
  obtain ⟨rfl, ⟨v6, rfl, f7⟩⟩ := hp
  show x_seq _ _ _ _ ([.inr (.inr (7, x0)), .inr (.inr (3, x1)), .inr (.inr (2, x2)), .inl x3, .inr (.inr (0, 0))], [.inl v6, .inr (.inr (12, j1))], h)
  refine v_aaldn V (L' := 72) (by decide) (by decide) rfl f2 (by omega) (by omega) (fun j8 f9 => ?_)
  refine q_astore (Nat.le_of_ble_eq_true rfl) ?_
  show x_seq _ _ _ _ ([.inr (.inr (7, x0)), .inr (.inr (3, x1)), .inr (.inr (2, x2)), .inl x3, .inr (.inr (1, j8))], [], h)
  refine q_aload rfl (by decide) ?_
  refine q_aload rfl (by decide) ?_
  refine q_iload rfl ?_
  refine q_callv rfl (by decide) (V.lv g1) (Nat.le_of_ble_eq_true rfl) (Nat.le_of_ble_eq_true rfl) (by rw [V.2.2.1]; decide) (by rw [V.2.2.2]; decide) ?_
  refine xC.up (tv14 (x0 := x1) (x1 := x3) V.set g1 (fun o10 g11 hp => ?_)) (by omega)
  obtain ⟨rfl, ⟨v13, rfl⟩⟩ := hp
  show x_seq _ _ _ _ ([.inr (.inr (7, x0)), .inr (.inr (3, x1)), .inr (.inr (2, x2)), .inl x3, .inr (.inr (1, j8))], [.inl v13, .inr (.inr (1, j8))], h)
  refine q_callv rfl (by decide) (V.lv f9) (Nat.le_of_ble_eq_true rfl) (Nat.le_of_ble_eq_true rfl) (by rw [V.2.2.1]; decide) (by rw [V.2.2.2]; decide) ?_
  refine xC.up (tv3 (x0 := j8) (x1 := v13) V.set f9 (fun o15 g16 hp => ?_)) (by omega)
  obtain ⟨hg17, rfl⟩ := hp
  have V20 := VI.after (mc := 0) (ms := 0) V hg17
  show x_seq _ _ _ _ ([.inr (.inr (7, x0)), .inr (.inr (3, x1)), .inr (.inr (2, x2)), .inl x3, .inr (.inr (1, j8))], [], x_setc g16 (x_ce h + 0) (x_so h + 0))
  generalize x_setc g16 (x_ce h + 0) (x_so h + 0) = h21 at V20 ⊢
  refine q_aload rfl (by decide) ?_
  refine q_aload rfl (by decide) ?_
  refine v_pfr V20 (by decide) rfl g2 f9.2 rfl (fun h22 V23 => ?_)
  refine q_aload rfl (by decide) ?_
  refine v_iconst (k := 1) rfl (fun v24 e25 => ?_)
  refine v_pfi V23 rfl (fun lo hi hm => by simp only [x_rgl, List.mem_cons, Prod.mk.injEq, List.not_mem_nil, or_false] at hm; omega) rfl g2 (fun h26 V27 => ?_)
  refine q_aload rfl (by decide) ?_
  refine q_aload rfl (by decide) ?_
  refine q_aload rfl (by decide) ?_
  refine v_gfi V27 f9 (fun v28 => ?_)
  refine q_callv rfl (by decide) (V27.lv g0) (Nat.le_of_ble_eq_true rfl) (Nat.le_of_ble_eq_true rfl) (by rw [V27.2.2.1]; decide) (by rw [V27.2.2.2]; decide) ?_
  refine xC.up (tv53 (x0 := x0) (x1 := j8) (x2 := v28) V27.set g0 f9 (fun o30 g31 hp => ?_)) (by omega)
  obtain ⟨hg32, rfl⟩ := hp
  have V35 := VI.after (mc := 0) (ms := 0) V27 hg32
  show x_seq _ _ _ _ ([.inr (.inr (7, x0)), .inr (.inr (3, x1)), .inr (.inr (2, x2)), .inl x3, .inr (.inr (1, j8))], [], x_setc g31 (x_ce h26 + 0) (x_so h26 + 0))
  generalize x_setc g31 (x_ce h26 + 0) (x_so h26 + 0) = h36 at V35 ⊢
  exact q_ret (hZ _ _ ⟨⟨V35.1, V35.2.1⟩, rfl⟩)
theorem tv55 {c : xP} {h : xH} {Z : xO → xH → Prop} {x0 : Nat} {x1 : Nat} {x2 : Nat} (V : VI c 0 0 h) (g0 : L c 7 x0) (g1 : L c 3 x1) (g2 : L c 2 x2) (hZ : ∀ (o : xO) (g : xH), (CI g ∧ x_pj g = c) ∧ (o = .inl none) → Z o g) : xC 600 55 [.inr (.inr (7, x0)), .inr (.inr (3, x1)), .inr (.inr (2, x2))] h Z := by
  refine ⟨rfl, V.2.2.1, V.2.2.2, ?_⟩
  show xR _ 55 0 ([.inr (.inr (7, x0)), .inr (.inr (3, x1)), .inr (.inr (2, x2)), .inr (.inr (0, 0))], [], h) Z
  refine xR.blk c55_0 ?_
  refine q_aload rfl (by decide) ?_
  refine v_iconst (k := 30) rfl (fun v1 e2 => ?_)
  refine v_iconst (k := 33) rfl (fun v3 e4 => ?_)
  refine q_callv rfl (by decide) (V.lv g1) (Nat.le_of_ble_eq_true rfl) (Nat.le_of_ble_eq_true rfl) (by rw [V.2.2.1]; decide) (by rw [V.2.2.2]; decide) ?_
  refine xC.up (tv29 (x0 := x1) (x1 := v1) (x2 := v3) V.set g1 (by omega) (by omega) (fun o5 g6 hp => ?_)) (by omega)
  obtain ⟨rfl, ⟨v8, rfl, f9⟩⟩ := hp
  show x_seq _ _ _ _ ([.inr (.inr (7, x0)), .inr (.inr (3, x1)), .inr (.inr (2, x2)), .inr (.inr (0, 0))], [.inl v8], h)
  refine q_istore (Nat.le_of_ble_eq_true rfl) ?_
  show x_seq _ _ _ _ ([.inr (.inr (7, x0)), .inr (.inr (3, x1)), .inr (.inr (2, x2)), .inl v8], [], h)
  refine q_iload rfl ?_
  refine v_iconst (k := -1) rfl (fun v10 e11 => ?_)
  refine v_icmp_eq (fun d12 => ?_) (fun d12 => ?_)
  · skip
    refine xR.blk c55_24 ?_
    refine q_aload rfl (by decide) ?_
    refine v_gfrn V (by decide) rfl g1 (fun j13 f14 => ?_)
    refine q_aload rfl (by decide) ?_
    refine v_gfir V (lo := 0) (hi := 23) (by decide) g2 (fun v15 e16 => ?_)
    refine q_callv rfl (by decide) (V.lv f14) (Nat.le_of_ble_eq_true rfl) (Nat.le_of_ble_eq_true rfl) (by rw [V.2.2.1]; decide) (by rw [V.2.2.2]; decide) ?_
    refine xC.up (tv37 (x0 := j13) (x1 := v15) V.set f14 (fun o17 g18 hp => ?_)) (by omega)
    obtain ⟨hg19, rfl⟩ := hp
    have V22 := VI.after (mc := 0) (ms := 0) V hg19
    show x_seq _ _ _ _ ([.inr (.inr (7, x0)), .inr (.inr (3, x1)), .inr (.inr (2, x2)), .inl v8], [], x_setc g18 (x_ce h + 0) (x_so h + 0))
    generalize x_setc g18 (x_ce h + 0) (x_so h + 0) = h23 at V22 ⊢
    refine q_goto ?_
    refine xR.blk c55_45 ?_
    exact q_ret (hZ _ _ ⟨⟨V22.1, V22.2.1⟩, rfl⟩)
  · skip
    refine q_aload rfl (by decide) ?_
    refine v_gfrn V (by decide) rfl g1 (fun j24 f25 => ?_)
    refine q_callv rfl (by decide) (V.lv f25) (Nat.le_of_ble_eq_true rfl) (Nat.le_of_ble_eq_true rfl) (by rw [V.2.2.1]; decide) (by rw [V.2.2.2]; decide) ?_
    refine xC.up (tv24 (x0 := j24) V.set f25 (fun o26 g27 hp => ?_)) (by omega)
    obtain ⟨rfl, ⟨v29, rfl, f30⟩⟩ := hp
    show x_seq _ _ _ _ ([.inr (.inr (7, x0)), .inr (.inr (3, x1)), .inr (.inr (2, x2)), .inl v8], [.inl v29], h)
    refine v_if_le (fun d31 => ?_) (fun d31 => ?_)
    · skip
      refine xR.blk c55_38 ?_
      refine q_aload rfl (by decide) ?_
      refine q_aload rfl (by decide) ?_
      refine q_aload rfl (by decide) ?_
      refine q_iload rfl ?_
      refine q_callv rfl (by decide) (V.lv g0) (Nat.le_of_ble_eq_true rfl) (Nat.le_of_ble_eq_true rfl) (by rw [V.2.2.1]; decide) (by rw [V.2.2.2]; decide) ?_
      refine xC.up (tv54 (x0 := x0) (x1 := x1) (x2 := x2) (x3 := v8) V.set g0 g1 g2 (fun o32 g33 hp => ?_)) (by omega)
      obtain ⟨hg34, rfl⟩ := hp
      have V37 := VI.after (mc := 0) (ms := 0) V hg34
      show x_seq _ _ _ _ ([.inr (.inr (7, x0)), .inr (.inr (3, x1)), .inr (.inr (2, x2)), .inl v8], [], x_setc g33 (x_ce h + 0) (x_so h + 0))
      generalize x_setc g33 (x_ce h + 0) (x_so h + 0) = h38 at V37 ⊢
      refine q_goto ?_
      refine xR.blk c55_45 ?_
      exact q_ret (hZ _ _ ⟨⟨V37.1, V37.2.1⟩, rfl⟩)
    · skip
      refine q_goto ?_
      refine xR.blk c55_24 ?_
      refine q_aload rfl (by decide) ?_
      refine v_gfrn V (by decide) rfl g1 (fun j39 f40 => ?_)
      refine q_aload rfl (by decide) ?_
      refine v_gfir V (lo := 0) (hi := 23) (by decide) g2 (fun v41 e42 => ?_)
      refine q_callv rfl (by decide) (V.lv f40) (Nat.le_of_ble_eq_true rfl) (Nat.le_of_ble_eq_true rfl) (by rw [V.2.2.1]; decide) (by rw [V.2.2.2]; decide) ?_
      refine xC.up (tv37 (x0 := j39) (x1 := v41) V.set f40 (fun o43 g44 hp => ?_)) (by omega)
      obtain ⟨hg45, rfl⟩ := hp
      have V48 := VI.after (mc := 0) (ms := 0) V hg45
      show x_seq _ _ _ _ ([.inr (.inr (7, x0)), .inr (.inr (3, x1)), .inr (.inr (2, x2)), .inl v8], [], x_setc g44 (x_ce h + 0) (x_so h + 0))
      generalize x_setc g44 (x_ce h + 0) (x_so h + 0) = h49 at V48 ⊢
      refine q_goto ?_
      refine xR.blk c55_45 ?_
      exact q_ret (hZ _ _ ⟨⟨V48.1, V48.2.1⟩, rfl⟩)
theorem tv56 {c : xP} {h : xH} {Z : xO → xH → Prop} {x0 : Nat} {x1 : Nat} (V : VI c 0 0 h) (g0 : L c 7 x0) (g1 : L c 1 x1) (hZ : ∀ (o : xO) (g : xH), (CI g ∧ x_pj g = c) ∧ (o = .inl none) → Z o g) : xC 30 56 [.inr (.inr (7, x0)), .inr (.inr (1, x1))] h Z := by
  refine ⟨rfl, V.2.2.1, V.2.2.2, ?_⟩
  show xR _ 56 0 ([.inr (.inr (7, x0)), .inr (.inr (1, x1))], [], h) Z
  refine xR.blk c56_0 ?_
  refine q_aload rfl (by decide) ?_
  refine v_gfrn V (by decide) rfl g1 (fun j1 f2 => ?_)
  refine q_dup rfl ?_
  refine v_gfi V f2 (fun v3 => ?_)
  refine q_aload rfl (by decide) ?_
  refine q_callv rfl (by decide) (V.lv g1) (Nat.le_of_ble_eq_true rfl) (Nat.le_of_ble_eq_true rfl) (by rw [V.2.2.1]; decide) (by rw [V.2.2.2]; decide) ?_
  refine xC.up (tv6 (x0 := x1) V.set g1 (fun o5 g6 hp => ?_)) (by omega)
  obtain ⟨rfl, ⟨v8, rfl⟩⟩ := hp
  show x_seq _ _ _ _ ([.inr (.inr (7, x0)), .inr (.inr (1, x1))], [.inl v8, .inl v3, .inr (.inr (2, j1))], h)
  refine v_bin (fun v10 => ?_)
  refine v_pfi V rfl (fun lo hi hm => by simp only [x_rgl, List.mem_cons, Prod.mk.injEq, List.not_mem_nil, or_false] at hm; omega) rfl f2 (fun h12 V13 => ?_)
  refine q_aload rfl (by decide) ?_
  refine v_iconst (k := 0) rfl (fun v14 e15 => ?_)
  refine v_pfi V13 rfl (fun lo hi hm => by simp only [x_rgl, List.mem_cons, Prod.mk.injEq, List.not_mem_nil, or_false] at hm; omega) rfl g1 (fun h16 V17 => ?_)
  exact q_ret (hZ _ _ ⟨⟨V17.1, V17.2.1⟩, rfl⟩)
theorem tv57 {c : xP} {h : xH} {Z : xO → xH → Prop} {x0 : Nat} {x1 : Nat} (V : VI c 0 0 h) (g0 : L c 7 x0) (g1 : L c 1 x1) (hZ : ∀ (o : xO) (g : xH), (CI g ∧ x_pj g = c) ∧ (o = .inl none) → Z o g) : xC 60 57 [.inr (.inr (7, x0)), .inr (.inr (1, x1))] h Z := by
  refine ⟨rfl, V.2.2.1, V.2.2.2, ?_⟩
  show xR _ 57 0 ([.inr (.inr (7, x0)), .inr (.inr (1, x1))], [], h) Z
  refine xR.blk c57_0 ?_
  refine q_aload rfl (by decide) ?_
  refine q_gfr (V.lv g1) ?_
  refine q_stage ?_
  refine q_ane (fun d1 => ?_) (fun d1 => ?_)
  · skip
    refine xR.blk c57_30 ?_
    exact q_ret (hZ _ _ ⟨⟨V.1, V.2.1⟩, rfl⟩)
  · skip
    refine q_aload rfl (by decide) ?_
    refine q_stage ?_
    refine v_pfr V (by decide) rfl g1 (by rw [V.cnt (n := 6) (by decide)]; decide) rfl (fun h2 V3 => ?_)
    refine q_aload rfl (by decide) ?_
    refine v_gfrn V3 (by decide) rfl g1 (fun j4 f5 => ?_)
    refine v_iconst (k := 0) rfl (fun v6 e7 => ?_)
    refine v_pfi V3 rfl (fun lo hi hm => by simp only [x_rgl, List.mem_cons, Prod.mk.injEq, List.not_mem_nil, or_false] at hm; omega) rfl f5 (fun h8 V9 => ?_)
    refine q_aload rfl (by decide) ?_
    refine q_aload rfl (by decide) ?_
    refine q_callv rfl (by decide) (V9.lv g0) (Nat.le_of_ble_eq_true rfl) (Nat.le_of_ble_eq_true rfl) (by rw [V9.2.2.1]; decide) (by rw [V9.2.2.2]; decide) ?_
    refine xC.up (tv56 (x0 := x0) (x1 := x1) V9.set g0 g1 (fun o10 g11 hp => ?_)) (by omega)
    obtain ⟨hg12, rfl⟩ := hp
    have V15 := VI.after (mc := 0) (ms := 0) V9 hg12
    show x_seq _ _ _ _ ([.inr (.inr (7, x0)), .inr (.inr (1, x1))], [], x_setc g11 (x_ce h8 + 0) (x_so h8 + 0))
    generalize x_setc g11 (x_ce h8 + 0) (x_so h8 + 0) = h16 at V15 ⊢
    refine q_goto ?_
    refine xR.blk c57_30 ?_
    exact q_ret (hZ _ _ ⟨⟨V15.1, V15.2.1⟩, rfl⟩)
theorem tv58 {c : xP} {h : xH} {Z : xO → xH → Prop} {x0 : Nat} {x1 : Int32} {x2 : Int32} (V : VI c 0 0 h) (g0 : L c 7 x0) (hZ : ∀ (o : xO) (g : xH), ((CI g ∧ x_pj g = c) ∧ (o = .inl none)) ∨ ((CI g ∧ x_pj g = c) ∧ ∃ k, o = .inr k) → Z o g) : xC 1200 58 [.inr (.inr (7, x0)), .inl x1, .inl x2] h Z := by
  refine ⟨rfl, V.2.2.1, V.2.2.2, ?_⟩
  show xR _ 58 0 ([.inr (.inr (7, x0)), .inl x1, .inl x2, .inr (.inr (0, 0)), .inr (.inr (0, 0))], [], h) Z
  refine xR.blk c58_0 ?_
  refine q_aload rfl (by decide) ?_
  refine q_iload rfl ?_
  refine q_iload rfl ?_
  refine q_callv rfl (by decide) (V.lv g0) (Nat.le_of_ble_eq_true rfl) (Nat.le_of_ble_eq_true rfl) (by rw [V.2.2.1]; decide) (by rw [V.2.2.2]; decide) ?_
  refine xC.up (tv51 (x0 := x0) (x1 := x1) (x2 := x2) V.set g0 (fun o1 g2 hp => ?_)) (by omega)
  rcases hp with ⟨hg3, ⟨j4, rfl, f5, e6⟩⟩ | ⟨hg3, k9, rfl⟩
  · skip
    have V7 := VI.after (mc := 1) (ms := 6) V hg3
    show x_seq _ _ _ _ ([.inr (.inr (7, x0)), .inl x1, .inl x2, .inr (.inr (0, 0)), .inr (.inr (0, 0))], [.inr (.inr (2, j4))], x_setc g2 (x_ce h + 1) (x_so h + 6))
    generalize x_setc g2 (x_ce h + 1) (x_so h + 6) = h8 at V7 ⊢
    refine q_astore (Nat.le_of_ble_eq_true rfl) ?_
    show x_seq _ _ _ _ ([.inr (.inr (7, x0)), .inl x1, .inl x2, .inr (.inr (2, j4)), .inr (.inr (0, 0))], [], h8)
    refine q_aload rfl (by decide) ?_
    refine v_gfi V7 f5 (fun v9 => ?_)
    refine v_if_ne (fun d11 => ?_) (fun d11 => ?_)
    · skip
      refine xR.blk c58_18 ?_
      refine v_iconst (k := 0) rfl (fun v12 e13 => ?_)
      refine q_goto ?_
      refine xR.blk c58_19 ?_
      refine q_call (Nat.le_of_ble_eq_true rfl) (Nat.le_of_ble_eq_true rfl) (by rw [V7.2.2.1]; decide) (by rw [V7.2.2.2]; decide) ?_
      refine xC.up (tv46 (x0 := v12) V7.set  (fun o14 g15 hp => ?_)) (by omega)
      rcases hp with ⟨rfl, rfl, f18⟩ | ⟨hg16, k9, rfl⟩
      · skip
        have V19 : VI c 2 12 (x_setc (x_setc h8 0 0) (x_ce h8 + 1) (x_so h8 + 6)) := VI.after (mc := 1) (ms := 6) V7 ⟨V7.1, V7.2.1⟩
        show x_seq _ _ _ _ ([.inr (.inr (7, x0)), .inl x1, .inl x2, .inr (.inr (2, j4)), .inr (.inr (0, 0))], [], (x_setc (x_setc h8 0 0) (x_ce h8 + 1) (x_so h8 + 6)))
        refine q_aload rfl (by decide) ?_
        refine v_iconst (k := 1) rfl (fun v20 e21 => ?_)
        refine v_pfz V19 rfl (i32_01 (by omega)) (fun lo hi hm => by simp only [x_rgl, List.mem_cons, Prod.mk.injEq, List.not_mem_nil, or_false] at hm; omega) rfl f5 (fun h22 V23 => ?_)
        refine q_aload rfl (by decide) ?_
        refine q_gfr (V23.lv f5) ?_
        refine q_astore (Nat.le_of_ble_eq_true rfl) ?_
        show x_seq _ _ _ _ ([.inr (.inr (7, x0)), .inl x1, .inl x2, .inr (.inr (2, j4)), .inr (.inr (1, (x_vr h22 2 5 j4)))], [], h22)
        refine q_aload rfl (by decide) ?_
        refine q_ifnonnull (fun d24 => ?_) (fun d24 => ?_)
        · skip
          have f25 : L c 1 (x_vr h22 2 5 j4) := ⟨Nat.one_le_iff_ne_zero.mpr d24, (V23.nu (K := 2) (k := 5) (by decide) f5)⟩
          refine xR.blk c58_52 ?_
          refine q_aload rfl (by decide) ?_
          refine q_gfr (V23.lv f25) ?_
          refine q_aload rfl (by decide) ?_
          refine q_ane (fun d26 => ?_) (fun d26 => ?_)
          · skip
            refine xR.blk c58_67 ?_
            exact q_ret (hZ _ _ (Or.inl ⟨⟨V23.1, V23.2.1⟩, rfl⟩))
          · skip
            refine q_aload rfl (by decide) ?_
            refine q_aload rfl (by decide) ?_
            refine q_callv rfl (by decide) (V23.lv g0) (Nat.le_of_ble_eq_true rfl) (Nat.le_of_ble_eq_true rfl) (by rw [V23.2.2.1]; decide) (by rw [V23.2.2.2]; decide) ?_
            refine xC.up (tv57 (x0 := x0) (x1 := (x_vr h22 2 5 j4)) V23.set g0 f25 (fun o27 g28 hp => ?_)) (by omega)
            obtain ⟨hg29, rfl⟩ := hp
            have V32 := VI.after (mc := 0) (ms := 0) V23 hg29
            show x_seq _ _ _ _ ([.inr (.inr (7, x0)), .inl x1, .inl x2, .inr (.inr (2, j4)), .inr (.inr (1, (x_vr h22 2 5 j4)))], [], x_setc g28 (x_ce h22 + 0) (x_so h22 + 0))
            generalize x_setc g28 (x_ce h22 + 0) (x_so h22 + 0) = h33 at V32 ⊢
            refine q_goto ?_
            refine xR.blk c58_67 ?_
            exact q_ret (hZ _ _ (Or.inl ⟨⟨V32.1, V32.2.1⟩, rfl⟩))
        · skip
          refine q_aload rfl (by decide) ?_
          refine q_aload rfl (by decide) ?_
          refine v_gfrn V23 (by decide) rfl g0 (fun j34 f35 => ?_)
          refine q_iload rfl ?_
          refine v_aaldn V23 (L' := 3) (by decide) (by decide) rfl f35 (by omega) (by omega) (fun j36 f37 => ?_)
          refine q_aload rfl (by decide) ?_
          refine q_callv rfl (by decide) (V23.lv g0) (Nat.le_of_ble_eq_true rfl) (Nat.le_of_ble_eq_true rfl) (by rw [V23.2.2.1]; decide) (by rw [V23.2.2.2]; decide) ?_
          refine xC.up (tv55 (x0 := x0) (x1 := j36) (x2 := j4) V23.set g0 f37 f5 (fun o38 g39 hp => ?_)) (by omega)
          obtain ⟨hg40, rfl⟩ := hp
          have V43 := VI.after (mc := 0) (ms := 0) V23 hg40
          show x_seq _ _ _ _ ([.inr (.inr (7, x0)), .inl x1, .inl x2, .inr (.inr (2, j4)), .inr (.inr (1, (x_vr h22 2 5 j4)))], [], x_setc g39 (x_ce h22 + 0) (x_so h22 + 0))
          generalize x_setc g39 (x_ce h22 + 0) (x_so h22 + 0) = h44 at V43 ⊢
          refine q_goto ?_
          refine xR.blk c58_67 ?_
          exact q_ret (hZ _ _ (Or.inl ⟨⟨V43.1, V43.2.1⟩, rfl⟩))
      · exact hZ _ _ (Or.inr ⟨hg16, k9, rfl⟩)
    · skip
      refine v_iconst (k := 1) rfl (fun v45 e46 => ?_)
      refine q_goto ?_
      refine xR.blk c58_19 ?_
      refine q_call (Nat.le_of_ble_eq_true rfl) (Nat.le_of_ble_eq_true rfl) (by rw [V7.2.2.1]; decide) (by rw [V7.2.2.2]; decide) ?_
      refine xC.up (tv46 (x0 := v45) V7.set  (fun o47 g48 hp => ?_)) (by omega)
      rcases hp with ⟨rfl, rfl, f51⟩ | ⟨hg49, k9, rfl⟩
      · skip
        have V52 : VI c 2 12 (x_setc (x_setc h8 0 0) (x_ce h8 + 1) (x_so h8 + 6)) := VI.after (mc := 1) (ms := 6) V7 ⟨V7.1, V7.2.1⟩
        show x_seq _ _ _ _ ([.inr (.inr (7, x0)), .inl x1, .inl x2, .inr (.inr (2, j4)), .inr (.inr (0, 0))], [], (x_setc (x_setc h8 0 0) (x_ce h8 + 1) (x_so h8 + 6)))
        refine q_aload rfl (by decide) ?_
        refine v_iconst (k := 1) rfl (fun v53 e54 => ?_)
        refine v_pfz V52 rfl (i32_01 (by omega)) (fun lo hi hm => by simp only [x_rgl, List.mem_cons, Prod.mk.injEq, List.not_mem_nil, or_false] at hm; omega) rfl f5 (fun h55 V56 => ?_)
        refine q_aload rfl (by decide) ?_
        refine q_gfr (V56.lv f5) ?_
        refine q_astore (Nat.le_of_ble_eq_true rfl) ?_
        show x_seq _ _ _ _ ([.inr (.inr (7, x0)), .inl x1, .inl x2, .inr (.inr (2, j4)), .inr (.inr (1, (x_vr h55 2 5 j4)))], [], h55)
        refine q_aload rfl (by decide) ?_
        refine q_ifnonnull (fun d57 => ?_) (fun d57 => ?_)
        · skip
          have f58 : L c 1 (x_vr h55 2 5 j4) := ⟨Nat.one_le_iff_ne_zero.mpr d57, (V56.nu (K := 2) (k := 5) (by decide) f5)⟩
          refine xR.blk c58_52 ?_
          refine q_aload rfl (by decide) ?_
          refine q_gfr (V56.lv f58) ?_
          refine q_aload rfl (by decide) ?_
          refine q_ane (fun d59 => ?_) (fun d59 => ?_)
          · skip
            refine xR.blk c58_67 ?_
            exact q_ret (hZ _ _ (Or.inl ⟨⟨V56.1, V56.2.1⟩, rfl⟩))
          · skip
            refine q_aload rfl (by decide) ?_
            refine q_aload rfl (by decide) ?_
            refine q_callv rfl (by decide) (V56.lv g0) (Nat.le_of_ble_eq_true rfl) (Nat.le_of_ble_eq_true rfl) (by rw [V56.2.2.1]; decide) (by rw [V56.2.2.2]; decide) ?_
            refine xC.up (tv57 (x0 := x0) (x1 := (x_vr h55 2 5 j4)) V56.set g0 f58 (fun o60 g61 hp => ?_)) (by omega)
            obtain ⟨hg62, rfl⟩ := hp
            have V65 := VI.after (mc := 0) (ms := 0) V56 hg62
            show x_seq _ _ _ _ ([.inr (.inr (7, x0)), .inl x1, .inl x2, .inr (.inr (2, j4)), .inr (.inr (1, (x_vr h55 2 5 j4)))], [], x_setc g61 (x_ce h55 + 0) (x_so h55 + 0))
            generalize x_setc g61 (x_ce h55 + 0) (x_so h55 + 0) = h66 at V65 ⊢
            refine q_goto ?_
            refine xR.blk c58_67 ?_
            exact q_ret (hZ _ _ (Or.inl ⟨⟨V65.1, V65.2.1⟩, rfl⟩))
        · skip
          refine q_aload rfl (by decide) ?_
          refine q_aload rfl (by decide) ?_
          refine v_gfrn V56 (by decide) rfl g0 (fun j67 f68 => ?_)
          refine q_iload rfl ?_
          refine v_aaldn V56 (L' := 3) (by decide) (by decide) rfl f68 (by omega) (by omega) (fun j69 f70 => ?_)
          refine q_aload rfl (by decide) ?_
          refine q_callv rfl (by decide) (V56.lv g0) (Nat.le_of_ble_eq_true rfl) (Nat.le_of_ble_eq_true rfl) (by rw [V56.2.2.1]; decide) (by rw [V56.2.2.2]; decide) ?_
          refine xC.up (tv55 (x0 := x0) (x1 := j69) (x2 := j4) V56.set g0 f70 f5 (fun o71 g72 hp => ?_)) (by omega)
          obtain ⟨hg73, rfl⟩ := hp
          have V76 := VI.after (mc := 0) (ms := 0) V56 hg73
          show x_seq _ _ _ _ ([.inr (.inr (7, x0)), .inl x1, .inl x2, .inr (.inr (2, j4)), .inr (.inr (1, (x_vr h55 2 5 j4)))], [], x_setc g72 (x_ce h55 + 0) (x_so h55 + 0))
          generalize x_setc g72 (x_ce h55 + 0) (x_so h55 + 0) = h77 at V76 ⊢
          refine q_goto ?_
          refine xR.blk c58_67 ?_
          exact q_ret (hZ _ _ (Or.inl ⟨⟨V76.1, V76.2.1⟩, rfl⟩))
      · exact hZ _ _ (Or.inr ⟨hg49, k9, rfl⟩)
  · exact hZ _ _ (Or.inr ⟨hg3, k9, rfl⟩)
