theorem tv47 {c : xP} {h : xH} {Z : xO → xH → Prop} {x0 : Nat} {x1 : Int32} {x2 : Int32} (V : VI c 0 0 h) (g0 : L c 7 x0) (hZ : ∀ (o : xO) (g : xH), ((CI g ∧ x_mq g = x_mq h) ∧ (∃ v : Int32, o = .inl (some (.inl v)))) ∨ ((CI g ∧ x_pj g = c) ∧ ∃ k, o = .inr k) → Z o g) : xC 100 47 [.inr (.inr (7, x0)), .inl x1, .inl x2] h Z := by
  refine ⟨rfl, V.2.2.1, V.2.2.2, ?_⟩
  show xR _ 47 0 ([.inr (.inr (7, x0)), .inl x1, .inl x2], [], h) Z
  refine xR.blk c47_0 ?_
  refine q_iload rfl ?_
  refine q_call (Nat.le_of_ble_eq_true rfl) (Nat.le_of_ble_eq_true rfl) (by rw [V.2.2.1]; decide) (by rw [V.2.2.2]; decide) ?_
  refine xC.up (tv44 (x0 := x1) V.set  (fun o1 g2 hp => ?_)) (by omega)
  obtain ⟨rfl, ⟨v4, rfl, f5⟩⟩ := hp
  show x_seq _ _ _ _ ([.inr (.inr (7, x0)), .inl x1, .inl x2], [.inl v4], h)
  refine v_if_eq (fun d6 => ?_) (fun d6 => ?_)
  · skip
    refine xR.blk c47_23 ?_
    refine v_iconst (k := 0) rfl (fun v7 e8 => ?_)
    refine q_goto ?_
    refine xR.blk c47_24 ?_
    refine q_call (Nat.le_of_ble_eq_true rfl) (Nat.le_of_ble_eq_true rfl) (by rw [V.2.2.1]; decide) (by rw [V.2.2.2]; decide) ?_
    refine xC.up (tv45 (x0 := v7) V.set  (fun o9 g10 hp => ?_)) (by omega)
    rcases hp with ⟨rfl, rfl, f13⟩ | ⟨hg11, k9, rfl⟩
    · skip
      have V14 : VI c 1 6 (x_setc (x_setc h 0 0) (x_ce h + 1) (x_so h + 6)) := VI.after (mc := 1) (ms := 6) V ⟨V.1, V.2.1⟩
      show x_seq _ _ _ _ ([.inr (.inr (7, x0)), .inl x1, .inl x2], [], (x_setc (x_setc h 0 0) (x_ce h + 1) (x_so h + 6)))
      refine q_aload rfl (by decide) ?_
      refine q_gfi (V14.lv g0) ?_
      have e15 : 0 ≤ (x_vi h 7 4 x0).toInt ∧ (x_vi h 7 4 x0).toInt ≤ 16 := V14.rg (K := 7) (k := 4) (lo := 0) (hi := 16) (by decide) g0
      show x_seq _ _ _ _ ([.inr (.inr (7, x0)), .inl x1, .inl x2], [.inl (x_vi h 7 4 x0)], (x_setc (x_setc h 0 0) (x_ce h + 1) (x_so h + 6)))
      refine v_iconst (k := 16) rfl (fun v16 e17 => ?_)
      refine v_icmp_ge (fun d18 => ?_) (fun d18 => ?_)
      · skip
        refine xR.blk c47_40 ?_
        refine v_iconst (k := 0) rfl (fun v19 e20 => ?_)
        refine q_goto ?_
        refine xR.blk c47_41 ?_
        refine q_call (Nat.le_of_ble_eq_true rfl) (Nat.le_of_ble_eq_true rfl) (by rw [V14.2.2.1]; decide) (by rw [V14.2.2.2]; decide) ?_
        refine xC.up (tv46 (x0 := v19) V14.set  (fun o21 g22 hp => ?_)) (by omega)
        rcases hp with ⟨rfl, rfl, f25⟩ | ⟨hg23, k9, rfl⟩
        · skip
          have V26 : VI c 2 12 (x_setc (x_setc (x_setc (x_setc h 0 0) (x_ce h + 1) (x_so h + 6)) 0 0) (x_ce (x_setc (x_setc h 0 0) (x_ce h + 1) (x_so h + 6)) + 1) (x_so (x_setc (x_setc h 0 0) (x_ce h + 1) (x_so h + 6)) + 6)) := VI.after (mc := 1) (ms := 6) V14 ⟨V14.1, V14.2.1⟩
          show x_seq _ _ _ _ ([.inr (.inr (7, x0)), .inl x1, .inl x2], [], (x_setc (x_setc (x_setc (x_setc h 0 0) (x_ce h + 1) (x_so h + 6)) 0 0) (x_ce (x_setc (x_setc h 0 0) (x_ce h + 1) (x_so h + 6)) + 1) (x_so (x_setc (x_setc h 0 0) (x_ce h + 1) (x_so h + 6)) + 6)))
          refine q_aload rfl (by decide) ?_
          refine q_gfr (V26.lv g0) ?_
          show x_seq _ _ _ _ ([.inr (.inr (7, x0)), .inl x1, .inl x2], [.inr (.inr (13, (x_vr h 7 2 x0)))], (x_setc (x_setc (x_setc (x_setc h 0 0) (x_ce h + 1) (x_so h + 6)) 0 0) (x_ce (x_setc (x_setc h 0 0) (x_ce h + 1) (x_so h + 6)) + 1) (x_so (x_setc (x_setc h 0 0) (x_ce h + 1) (x_so h + 6)) + 6)))
          refine q_aload rfl (by decide) ?_
          refine q_gfi (V26.lv g0) ?_
          have e27 : 0 ≤ (x_vi h 7 4 x0).toInt ∧ (x_vi h 7 4 x0).toInt ≤ 16 := V26.rg (K := 7) (k := 4) (lo := 0) (hi := 16) (by decide) g0
          show x_seq _ _ _ _ ([.inr (.inr (7, x0)), .inl x1, .inl x2], [.inl (x_vi h 7 4 x0), .inr (.inr (13, (x_vr h 7 2 x0)))], (x_setc (x_setc (x_setc (x_setc h 0 0) (x_ce h + 1) (x_so h + 6)) 0 0) (x_ce (x_setc (x_setc h 0 0) (x_ce h + 1) (x_so h + 6)) + 1) (x_so (x_setc (x_setc h 0 0) (x_ce h + 1) (x_so h + 6)) + 6)))
          exact tk_tail (by omega) V26 (by decide) (by decide) g0 (show (x_vi h 7 4 x0).toInt < 16 by omega) (fun o g hp => hZ _ _ (Or.inl hp))
        · exact hZ _ _ (Or.inr ⟨hg23, k9, rfl⟩)
      · skip
        refine v_iconst (k := 1) rfl (fun v28 e29 => ?_)
        refine q_goto ?_
        refine xR.blk c47_41 ?_
        refine q_call (Nat.le_of_ble_eq_true rfl) (Nat.le_of_ble_eq_true rfl) (by rw [V14.2.2.1]; decide) (by rw [V14.2.2.2]; decide) ?_
        refine xC.up (tv46 (x0 := v28) V14.set  (fun o30 g31 hp => ?_)) (by omega)
        rcases hp with ⟨rfl, rfl, f34⟩ | ⟨hg32, k9, rfl⟩
        · skip
          have V35 : VI c 2 12 (x_setc (x_setc (x_setc (x_setc h 0 0) (x_ce h + 1) (x_so h + 6)) 0 0) (x_ce (x_setc (x_setc h 0 0) (x_ce h + 1) (x_so h + 6)) + 1) (x_so (x_setc (x_setc h 0 0) (x_ce h + 1) (x_so h + 6)) + 6)) := VI.after (mc := 1) (ms := 6) V14 ⟨V14.1, V14.2.1⟩
          show x_seq _ _ _ _ ([.inr (.inr (7, x0)), .inl x1, .inl x2], [], (x_setc (x_setc (x_setc (x_setc h 0 0) (x_ce h + 1) (x_so h + 6)) 0 0) (x_ce (x_setc (x_setc h 0 0) (x_ce h + 1) (x_so h + 6)) + 1) (x_so (x_setc (x_setc h 0 0) (x_ce h + 1) (x_so h + 6)) + 6)))
          refine q_aload rfl (by decide) ?_
          refine q_gfr (V35.lv g0) ?_
          show x_seq _ _ _ _ ([.inr (.inr (7, x0)), .inl x1, .inl x2], [.inr (.inr (13, (x_vr h 7 2 x0)))], (x_setc (x_setc (x_setc (x_setc h 0 0) (x_ce h + 1) (x_so h + 6)) 0 0) (x_ce (x_setc (x_setc h 0 0) (x_ce h + 1) (x_so h + 6)) + 1) (x_so (x_setc (x_setc h 0 0) (x_ce h + 1) (x_so h + 6)) + 6)))
          refine q_aload rfl (by decide) ?_
          refine q_gfi (V35.lv g0) ?_
          have e36 : 0 ≤ (x_vi h 7 4 x0).toInt ∧ (x_vi h 7 4 x0).toInt ≤ 16 := V35.rg (K := 7) (k := 4) (lo := 0) (hi := 16) (by decide) g0
          show x_seq _ _ _ _ ([.inr (.inr (7, x0)), .inl x1, .inl x2], [.inl (x_vi h 7 4 x0), .inr (.inr (13, (x_vr h 7 2 x0)))], (x_setc (x_setc (x_setc (x_setc h 0 0) (x_ce h + 1) (x_so h + 6)) 0 0) (x_ce (x_setc (x_setc h 0 0) (x_ce h + 1) (x_so h + 6)) + 1) (x_so (x_setc (x_setc h 0 0) (x_ce h + 1) (x_so h + 6)) + 6)))
          exact tk_tail (by omega) V35 (by decide) (by decide) g0 (show (x_vi h 7 4 x0).toInt < 16 by omega) (fun o g hp => hZ _ _ (Or.inl hp))
        · exact hZ _ _ (Or.inr ⟨hg32, k9, rfl⟩)
    · exact hZ _ _ (Or.inr ⟨hg11, k9, rfl⟩)
  · skip
    refine q_iload rfl ?_
    refine q_call (Nat.le_of_ble_eq_true rfl) (Nat.le_of_ble_eq_true rfl) (by rw [V.2.2.1]; decide) (by rw [V.2.2.2]; decide) ?_
    refine xC.up (tv44 (x0 := x2) V.set  (fun o37 g38 hp => ?_)) (by omega)
    obtain ⟨rfl, ⟨v40, rfl, f41⟩⟩ := hp
    show x_seq _ _ _ _ ([.inr (.inr (7, x0)), .inl x1, .inl x2], [.inl v40], h)
    refine v_if_eq (fun d42 => ?_) (fun d42 => ?_)
    · skip
      refine xR.blk c47_23 ?_
      refine v_iconst (k := 0) rfl (fun v43 e44 => ?_)
      refine q_goto ?_
      refine xR.blk c47_24 ?_
      refine q_call (Nat.le_of_ble_eq_true rfl) (Nat.le_of_ble_eq_true rfl) (by rw [V.2.2.1]; decide) (by rw [V.2.2.2]; decide) ?_
      refine xC.up (tv45 (x0 := v43) V.set  (fun o45 g46 hp => ?_)) (by omega)
      rcases hp with ⟨rfl, rfl, f49⟩ | ⟨hg47, k9, rfl⟩
      · skip
        have V50 : VI c 1 6 (x_setc (x_setc h 0 0) (x_ce h + 1) (x_so h + 6)) := VI.after (mc := 1) (ms := 6) V ⟨V.1, V.2.1⟩
        show x_seq _ _ _ _ ([.inr (.inr (7, x0)), .inl x1, .inl x2], [], (x_setc (x_setc h 0 0) (x_ce h + 1) (x_so h + 6)))
        refine q_aload rfl (by decide) ?_
        refine q_gfi (V50.lv g0) ?_
        have e51 : 0 ≤ (x_vi h 7 4 x0).toInt ∧ (x_vi h 7 4 x0).toInt ≤ 16 := V50.rg (K := 7) (k := 4) (lo := 0) (hi := 16) (by decide) g0
        show x_seq _ _ _ _ ([.inr (.inr (7, x0)), .inl x1, .inl x2], [.inl (x_vi h 7 4 x0)], (x_setc (x_setc h 0 0) (x_ce h + 1) (x_so h + 6)))
        refine v_iconst (k := 16) rfl (fun v52 e53 => ?_)
        refine v_icmp_ge (fun d54 => ?_) (fun d54 => ?_)
        · skip
          refine xR.blk c47_40 ?_
          refine v_iconst (k := 0) rfl (fun v55 e56 => ?_)
          refine q_goto ?_
          refine xR.blk c47_41 ?_
          refine q_call (Nat.le_of_ble_eq_true rfl) (Nat.le_of_ble_eq_true rfl) (by rw [V50.2.2.1]; decide) (by rw [V50.2.2.2]; decide) ?_
          refine xC.up (tv46 (x0 := v55) V50.set  (fun o57 g58 hp => ?_)) (by omega)
          rcases hp with ⟨rfl, rfl, f61⟩ | ⟨hg59, k9, rfl⟩
          · skip
            have V62 : VI c 2 12 (x_setc (x_setc (x_setc (x_setc h 0 0) (x_ce h + 1) (x_so h + 6)) 0 0) (x_ce (x_setc (x_setc h 0 0) (x_ce h + 1) (x_so h + 6)) + 1) (x_so (x_setc (x_setc h 0 0) (x_ce h + 1) (x_so h + 6)) + 6)) := VI.after (mc := 1) (ms := 6) V50 ⟨V50.1, V50.2.1⟩
            show x_seq _ _ _ _ ([.inr (.inr (7, x0)), .inl x1, .inl x2], [], (x_setc (x_setc (x_setc (x_setc h 0 0) (x_ce h + 1) (x_so h + 6)) 0 0) (x_ce (x_setc (x_setc h 0 0) (x_ce h + 1) (x_so h + 6)) + 1) (x_so (x_setc (x_setc h 0 0) (x_ce h + 1) (x_so h + 6)) + 6)))
            refine q_aload rfl (by decide) ?_
            refine q_gfr (V62.lv g0) ?_
            show x_seq _ _ _ _ ([.inr (.inr (7, x0)), .inl x1, .inl x2], [.inr (.inr (13, (x_vr h 7 2 x0)))], (x_setc (x_setc (x_setc (x_setc h 0 0) (x_ce h + 1) (x_so h + 6)) 0 0) (x_ce (x_setc (x_setc h 0 0) (x_ce h + 1) (x_so h + 6)) + 1) (x_so (x_setc (x_setc h 0 0) (x_ce h + 1) (x_so h + 6)) + 6)))
            refine q_aload rfl (by decide) ?_
            refine q_gfi (V62.lv g0) ?_
            have e63 : 0 ≤ (x_vi h 7 4 x0).toInt ∧ (x_vi h 7 4 x0).toInt ≤ 16 := V62.rg (K := 7) (k := 4) (lo := 0) (hi := 16) (by decide) g0
            show x_seq _ _ _ _ ([.inr (.inr (7, x0)), .inl x1, .inl x2], [.inl (x_vi h 7 4 x0), .inr (.inr (13, (x_vr h 7 2 x0)))], (x_setc (x_setc (x_setc (x_setc h 0 0) (x_ce h + 1) (x_so h + 6)) 0 0) (x_ce (x_setc (x_setc h 0 0) (x_ce h + 1) (x_so h + 6)) + 1) (x_so (x_setc (x_setc h 0 0) (x_ce h + 1) (x_so h + 6)) + 6)))
            exact tk_tail (by omega) V62 (by decide) (by decide) g0 (show (x_vi h 7 4 x0).toInt < 16 by omega) (fun o g hp => hZ _ _ (Or.inl hp))
          · exact hZ _ _ (Or.inr ⟨hg59, k9, rfl⟩)
        · skip
          refine v_iconst (k := 1) rfl (fun v64 e65 => ?_)
          refine q_goto ?_
          refine xR.blk c47_41 ?_
          refine q_call (Nat.le_of_ble_eq_true rfl) (Nat.le_of_ble_eq_true rfl) (by rw [V50.2.2.1]; decide) (by rw [V50.2.2.2]; decide) ?_
          refine xC.up (tv46 (x0 := v64) V50.set  (fun o66 g67 hp => ?_)) (by omega)
          rcases hp with ⟨rfl, rfl, f70⟩ | ⟨hg68, k9, rfl⟩
          · skip
            have V71 : VI c 2 12 (x_setc (x_setc (x_setc (x_setc h 0 0) (x_ce h + 1) (x_so h + 6)) 0 0) (x_ce (x_setc (x_setc h 0 0) (x_ce h + 1) (x_so h + 6)) + 1) (x_so (x_setc (x_setc h 0 0) (x_ce h + 1) (x_so h + 6)) + 6)) := VI.after (mc := 1) (ms := 6) V50 ⟨V50.1, V50.2.1⟩
            show x_seq _ _ _ _ ([.inr (.inr (7, x0)), .inl x1, .inl x2], [], (x_setc (x_setc (x_setc (x_setc h 0 0) (x_ce h + 1) (x_so h + 6)) 0 0) (x_ce (x_setc (x_setc h 0 0) (x_ce h + 1) (x_so h + 6)) + 1) (x_so (x_setc (x_setc h 0 0) (x_ce h + 1) (x_so h + 6)) + 6)))
            refine q_aload rfl (by decide) ?_
            refine q_gfr (V71.lv g0) ?_
            show x_seq _ _ _ _ ([.inr (.inr (7, x0)), .inl x1, .inl x2], [.inr (.inr (13, (x_vr h 7 2 x0)))], (x_setc (x_setc (x_setc (x_setc h 0 0) (x_ce h + 1) (x_so h + 6)) 0 0) (x_ce (x_setc (x_setc h 0 0) (x_ce h + 1) (x_so h + 6)) + 1) (x_so (x_setc (x_setc h 0 0) (x_ce h + 1) (x_so h + 6)) + 6)))
            refine q_aload rfl (by decide) ?_
            refine q_gfi (V71.lv g0) ?_
            have e72 : 0 ≤ (x_vi h 7 4 x0).toInt ∧ (x_vi h 7 4 x0).toInt ≤ 16 := V71.rg (K := 7) (k := 4) (lo := 0) (hi := 16) (by decide) g0
            show x_seq _ _ _ _ ([.inr (.inr (7, x0)), .inl x1, .inl x2], [.inl (x_vi h 7 4 x0), .inr (.inr (13, (x_vr h 7 2 x0)))], (x_setc (x_setc (x_setc (x_setc h 0 0) (x_ce h + 1) (x_so h + 6)) 0 0) (x_ce (x_setc (x_setc h 0 0) (x_ce h + 1) (x_so h + 6)) + 1) (x_so (x_setc (x_setc h 0 0) (x_ce h + 1) (x_so h + 6)) + 6)))
            exact tk_tail (by omega) V71 (by decide) (by decide) g0 (show (x_vi h 7 4 x0).toInt < 16 by omega) (fun o g hp => hZ _ _ (Or.inl hp))
          · exact hZ _ _ (Or.inr ⟨hg68, k9, rfl⟩)
      · exact hZ _ _ (Or.inr ⟨hg47, k9, rfl⟩)
    · skip
      refine q_iload rfl ?_
      refine q_iload rfl ?_
      refine v_icmp_eq (fun d73 => ?_) (fun d73 => ?_)
      · skip
        refine xR.blk c47_23 ?_
        refine v_iconst (k := 0) rfl (fun v74 e75 => ?_)
        refine q_goto ?_
        refine xR.blk c47_24 ?_
        refine q_call (Nat.le_of_ble_eq_true rfl) (Nat.le_of_ble_eq_true rfl) (by rw [V.2.2.1]; decide) (by rw [V.2.2.2]; decide) ?_
        refine xC.up (tv45 (x0 := v74) V.set  (fun o76 g77 hp => ?_)) (by omega)
        rcases hp with ⟨rfl, rfl, f80⟩ | ⟨hg78, k9, rfl⟩
        · skip
          have V81 : VI c 1 6 (x_setc (x_setc h 0 0) (x_ce h + 1) (x_so h + 6)) := VI.after (mc := 1) (ms := 6) V ⟨V.1, V.2.1⟩
          show x_seq _ _ _ _ ([.inr (.inr (7, x0)), .inl x1, .inl x2], [], (x_setc (x_setc h 0 0) (x_ce h + 1) (x_so h + 6)))
          refine q_aload rfl (by decide) ?_
          refine q_gfi (V81.lv g0) ?_
          have e82 : 0 ≤ (x_vi h 7 4 x0).toInt ∧ (x_vi h 7 4 x0).toInt ≤ 16 := V81.rg (K := 7) (k := 4) (lo := 0) (hi := 16) (by decide) g0
          show x_seq _ _ _ _ ([.inr (.inr (7, x0)), .inl x1, .inl x2], [.inl (x_vi h 7 4 x0)], (x_setc (x_setc h 0 0) (x_ce h + 1) (x_so h + 6)))
          refine v_iconst (k := 16) rfl (fun v83 e84 => ?_)
          refine v_icmp_ge (fun d85 => ?_) (fun d85 => ?_)
          · skip
            refine xR.blk c47_40 ?_
            refine v_iconst (k := 0) rfl (fun v86 e87 => ?_)
            refine q_goto ?_
            refine xR.blk c47_41 ?_
            refine q_call (Nat.le_of_ble_eq_true rfl) (Nat.le_of_ble_eq_true rfl) (by rw [V81.2.2.1]; decide) (by rw [V81.2.2.2]; decide) ?_
            refine xC.up (tv46 (x0 := v86) V81.set  (fun o88 g89 hp => ?_)) (by omega)
            rcases hp with ⟨rfl, rfl, f92⟩ | ⟨hg90, k9, rfl⟩
            · skip
              have V93 : VI c 2 12 (x_setc (x_setc (x_setc (x_setc h 0 0) (x_ce h + 1) (x_so h + 6)) 0 0) (x_ce (x_setc (x_setc h 0 0) (x_ce h + 1) (x_so h + 6)) + 1) (x_so (x_setc (x_setc h 0 0) (x_ce h + 1) (x_so h + 6)) + 6)) := VI.after (mc := 1) (ms := 6) V81 ⟨V81.1, V81.2.1⟩
              show x_seq _ _ _ _ ([.inr (.inr (7, x0)), .inl x1, .inl x2], [], (x_setc (x_setc (x_setc (x_setc h 0 0) (x_ce h + 1) (x_so h + 6)) 0 0) (x_ce (x_setc (x_setc h 0 0) (x_ce h + 1) (x_so h + 6)) + 1) (x_so (x_setc (x_setc h 0 0) (x_ce h + 1) (x_so h + 6)) + 6)))
              refine q_aload rfl (by decide) ?_
              refine q_gfr (V93.lv g0) ?_
              show x_seq _ _ _ _ ([.inr (.inr (7, x0)), .inl x1, .inl x2], [.inr (.inr (13, (x_vr h 7 2 x0)))], (x_setc (x_setc (x_setc (x_setc h 0 0) (x_ce h + 1) (x_so h + 6)) 0 0) (x_ce (x_setc (x_setc h 0 0) (x_ce h + 1) (x_so h + 6)) + 1) (x_so (x_setc (x_setc h 0 0) (x_ce h + 1) (x_so h + 6)) + 6)))
              refine q_aload rfl (by decide) ?_
              refine q_gfi (V93.lv g0) ?_
              have e94 : 0 ≤ (x_vi h 7 4 x0).toInt ∧ (x_vi h 7 4 x0).toInt ≤ 16 := V93.rg (K := 7) (k := 4) (lo := 0) (hi := 16) (by decide) g0
              show x_seq _ _ _ _ ([.inr (.inr (7, x0)), .inl x1, .inl x2], [.inl (x_vi h 7 4 x0), .inr (.inr (13, (x_vr h 7 2 x0)))], (x_setc (x_setc (x_setc (x_setc h 0 0) (x_ce h + 1) (x_so h + 6)) 0 0) (x_ce (x_setc (x_setc h 0 0) (x_ce h + 1) (x_so h + 6)) + 1) (x_so (x_setc (x_setc h 0 0) (x_ce h + 1) (x_so h + 6)) + 6)))
              exact tk_tail (by omega) V93 (by decide) (by decide) g0 (show (x_vi h 7 4 x0).toInt < 16 by omega) (fun o g hp => hZ _ _ (Or.inl hp))
            · exact hZ _ _ (Or.inr ⟨hg90, k9, rfl⟩)
          · skip
            refine v_iconst (k := 1) rfl (fun v95 e96 => ?_)
            refine q_goto ?_
            refine xR.blk c47_41 ?_
            refine q_call (Nat.le_of_ble_eq_true rfl) (Nat.le_of_ble_eq_true rfl) (by rw [V81.2.2.1]; decide) (by rw [V81.2.2.2]; decide) ?_
            refine xC.up (tv46 (x0 := v95) V81.set  (fun o97 g98 hp => ?_)) (by omega)
            rcases hp with ⟨rfl, rfl, f101⟩ | ⟨hg99, k9, rfl⟩
            · skip
              have V102 : VI c 2 12 (x_setc (x_setc (x_setc (x_setc h 0 0) (x_ce h + 1) (x_so h + 6)) 0 0) (x_ce (x_setc (x_setc h 0 0) (x_ce h + 1) (x_so h + 6)) + 1) (x_so (x_setc (x_setc h 0 0) (x_ce h + 1) (x_so h + 6)) + 6)) := VI.after (mc := 1) (ms := 6) V81 ⟨V81.1, V81.2.1⟩
              show x_seq _ _ _ _ ([.inr (.inr (7, x0)), .inl x1, .inl x2], [], (x_setc (x_setc (x_setc (x_setc h 0 0) (x_ce h + 1) (x_so h + 6)) 0 0) (x_ce (x_setc (x_setc h 0 0) (x_ce h + 1) (x_so h + 6)) + 1) (x_so (x_setc (x_setc h 0 0) (x_ce h + 1) (x_so h + 6)) + 6)))
              refine q_aload rfl (by decide) ?_
              refine q_gfr (V102.lv g0) ?_
              show x_seq _ _ _ _ ([.inr (.inr (7, x0)), .inl x1, .inl x2], [.inr (.inr (13, (x_vr h 7 2 x0)))], (x_setc (x_setc (x_setc (x_setc h 0 0) (x_ce h + 1) (x_so h + 6)) 0 0) (x_ce (x_setc (x_setc h 0 0) (x_ce h + 1) (x_so h + 6)) + 1) (x_so (x_setc (x_setc h 0 0) (x_ce h + 1) (x_so h + 6)) + 6)))
              refine q_aload rfl (by decide) ?_
              refine q_gfi (V102.lv g0) ?_
              have e103 : 0 ≤ (x_vi h 7 4 x0).toInt ∧ (x_vi h 7 4 x0).toInt ≤ 16 := V102.rg (K := 7) (k := 4) (lo := 0) (hi := 16) (by decide) g0
              show x_seq _ _ _ _ ([.inr (.inr (7, x0)), .inl x1, .inl x2], [.inl (x_vi h 7 4 x0), .inr (.inr (13, (x_vr h 7 2 x0)))], (x_setc (x_setc (x_setc (x_setc h 0 0) (x_ce h + 1) (x_so h + 6)) 0 0) (x_ce (x_setc (x_setc h 0 0) (x_ce h + 1) (x_so h + 6)) + 1) (x_so (x_setc (x_setc h 0 0) (x_ce h + 1) (x_so h + 6)) + 6)))
              exact tk_tail (by omega) V102 (by decide) (by decide) g0 (show (x_vi h 7 4 x0).toInt < 16 by omega) (fun o g hp => hZ _ _ (Or.inl hp))
            · exact hZ _ _ (Or.inr ⟨hg99, k9, rfl⟩)
        · exact hZ _ _ (Or.inr ⟨hg78, k9, rfl⟩)
      · skip
        refine v_iconst (k := 1) rfl (fun v104 e105 => ?_)
        refine q_goto ?_
        refine xR.blk c47_24 ?_
        refine q_call (Nat.le_of_ble_eq_true rfl) (Nat.le_of_ble_eq_true rfl) (by rw [V.2.2.1]; decide) (by rw [V.2.2.2]; decide) ?_
        refine xC.up (tv45 (x0 := v104) V.set  (fun o106 g107 hp => ?_)) (by omega)
        rcases hp with ⟨rfl, rfl, f110⟩ | ⟨hg108, k9, rfl⟩
        · skip
          have V111 : VI c 1 6 (x_setc (x_setc h 0 0) (x_ce h + 1) (x_so h + 6)) := VI.after (mc := 1) (ms := 6) V ⟨V.1, V.2.1⟩
          show x_seq _ _ _ _ ([.inr (.inr (7, x0)), .inl x1, .inl x2], [], (x_setc (x_setc h 0 0) (x_ce h + 1) (x_so h + 6)))
          refine q_aload rfl (by decide) ?_
          refine q_gfi (V111.lv g0) ?_
          have e112 : 0 ≤ (x_vi h 7 4 x0).toInt ∧ (x_vi h 7 4 x0).toInt ≤ 16 := V111.rg (K := 7) (k := 4) (lo := 0) (hi := 16) (by decide) g0
          show x_seq _ _ _ _ ([.inr (.inr (7, x0)), .inl x1, .inl x2], [.inl (x_vi h 7 4 x0)], (x_setc (x_setc h 0 0) (x_ce h + 1) (x_so h + 6)))
          refine v_iconst (k := 16) rfl (fun v113 e114 => ?_)
          refine v_icmp_ge (fun d115 => ?_) (fun d115 => ?_)
          · skip
            refine xR.blk c47_40 ?_
            refine v_iconst (k := 0) rfl (fun v116 e117 => ?_)
            refine q_goto ?_
            refine xR.blk c47_41 ?_
            refine q_call (Nat.le_of_ble_eq_true rfl) (Nat.le_of_ble_eq_true rfl) (by rw [V111.2.2.1]; decide) (by rw [V111.2.2.2]; decide) ?_
            refine xC.up (tv46 (x0 := v116) V111.set  (fun o118 g119 hp => ?_)) (by omega)
            rcases hp with ⟨rfl, rfl, f122⟩ | ⟨hg120, k9, rfl⟩
            · skip
              have V123 : VI c 2 12 (x_setc (x_setc (x_setc (x_setc h 0 0) (x_ce h + 1) (x_so h + 6)) 0 0) (x_ce (x_setc (x_setc h 0 0) (x_ce h + 1) (x_so h + 6)) + 1) (x_so (x_setc (x_setc h 0 0) (x_ce h + 1) (x_so h + 6)) + 6)) := VI.after (mc := 1) (ms := 6) V111 ⟨V111.1, V111.2.1⟩
              show x_seq _ _ _ _ ([.inr (.inr (7, x0)), .inl x1, .inl x2], [], (x_setc (x_setc (x_setc (x_setc h 0 0) (x_ce h + 1) (x_so h + 6)) 0 0) (x_ce (x_setc (x_setc h 0 0) (x_ce h + 1) (x_so h + 6)) + 1) (x_so (x_setc (x_setc h 0 0) (x_ce h + 1) (x_so h + 6)) + 6)))
              refine q_aload rfl (by decide) ?_
              refine q_gfr (V123.lv g0) ?_
              show x_seq _ _ _ _ ([.inr (.inr (7, x0)), .inl x1, .inl x2], [.inr (.inr (13, (x_vr h 7 2 x0)))], (x_setc (x_setc (x_setc (x_setc h 0 0) (x_ce h + 1) (x_so h + 6)) 0 0) (x_ce (x_setc (x_setc h 0 0) (x_ce h + 1) (x_so h + 6)) + 1) (x_so (x_setc (x_setc h 0 0) (x_ce h + 1) (x_so h + 6)) + 6)))
              refine q_aload rfl (by decide) ?_
              refine q_gfi (V123.lv g0) ?_
              have e124 : 0 ≤ (x_vi h 7 4 x0).toInt ∧ (x_vi h 7 4 x0).toInt ≤ 16 := V123.rg (K := 7) (k := 4) (lo := 0) (hi := 16) (by decide) g0
              show x_seq _ _ _ _ ([.inr (.inr (7, x0)), .inl x1, .inl x2], [.inl (x_vi h 7 4 x0), .inr (.inr (13, (x_vr h 7 2 x0)))], (x_setc (x_setc (x_setc (x_setc h 0 0) (x_ce h + 1) (x_so h + 6)) 0 0) (x_ce (x_setc (x_setc h 0 0) (x_ce h + 1) (x_so h + 6)) + 1) (x_so (x_setc (x_setc h 0 0) (x_ce h + 1) (x_so h + 6)) + 6)))
              exact tk_tail (by omega) V123 (by decide) (by decide) g0 (show (x_vi h 7 4 x0).toInt < 16 by omega) (fun o g hp => hZ _ _ (Or.inl hp))
            · exact hZ _ _ (Or.inr ⟨hg120, k9, rfl⟩)
          · skip
            refine v_iconst (k := 1) rfl (fun v125 e126 => ?_)
            refine q_goto ?_
            refine xR.blk c47_41 ?_
            refine q_call (Nat.le_of_ble_eq_true rfl) (Nat.le_of_ble_eq_true rfl) (by rw [V111.2.2.1]; decide) (by rw [V111.2.2.2]; decide) ?_
            refine xC.up (tv46 (x0 := v125) V111.set  (fun o127 g128 hp => ?_)) (by omega)
            rcases hp with ⟨rfl, rfl, f131⟩ | ⟨hg129, k9, rfl⟩
            · skip
              have V132 : VI c 2 12 (x_setc (x_setc (x_setc (x_setc h 0 0) (x_ce h + 1) (x_so h + 6)) 0 0) (x_ce (x_setc (x_setc h 0 0) (x_ce h + 1) (x_so h + 6)) + 1) (x_so (x_setc (x_setc h 0 0) (x_ce h + 1) (x_so h + 6)) + 6)) := VI.after (mc := 1) (ms := 6) V111 ⟨V111.1, V111.2.1⟩
              show x_seq _ _ _ _ ([.inr (.inr (7, x0)), .inl x1, .inl x2], [], (x_setc (x_setc (x_setc (x_setc h 0 0) (x_ce h + 1) (x_so h + 6)) 0 0) (x_ce (x_setc (x_setc h 0 0) (x_ce h + 1) (x_so h + 6)) + 1) (x_so (x_setc (x_setc h 0 0) (x_ce h + 1) (x_so h + 6)) + 6)))
              refine q_aload rfl (by decide) ?_
              refine q_gfr (V132.lv g0) ?_
              show x_seq _ _ _ _ ([.inr (.inr (7, x0)), .inl x1, .inl x2], [.inr (.inr (13, (x_vr h 7 2 x0)))], (x_setc (x_setc (x_setc (x_setc h 0 0) (x_ce h + 1) (x_so h + 6)) 0 0) (x_ce (x_setc (x_setc h 0 0) (x_ce h + 1) (x_so h + 6)) + 1) (x_so (x_setc (x_setc h 0 0) (x_ce h + 1) (x_so h + 6)) + 6)))
              refine q_aload rfl (by decide) ?_
              refine q_gfi (V132.lv g0) ?_
              have e133 : 0 ≤ (x_vi h 7 4 x0).toInt ∧ (x_vi h 7 4 x0).toInt ≤ 16 := V132.rg (K := 7) (k := 4) (lo := 0) (hi := 16) (by decide) g0
              show x_seq _ _ _ _ ([.inr (.inr (7, x0)), .inl x1, .inl x2], [.inl (x_vi h 7 4 x0), .inr (.inr (13, (x_vr h 7 2 x0)))], (x_setc (x_setc (x_setc (x_setc h 0 0) (x_ce h + 1) (x_so h + 6)) 0 0) (x_ce (x_setc (x_setc h 0 0) (x_ce h + 1) (x_so h + 6)) + 1) (x_so (x_setc (x_setc h 0 0) (x_ce h + 1) (x_so h + 6)) + 6)))
              exact tk_tail (by omega) V132 (by decide) (by decide) g0 (show (x_vi h 7 4 x0).toInt < 16 by omega) (fun o g hp => hZ _ _ (Or.inl hp))
            · exact hZ _ _ (Or.inr ⟨hg129, k9, rfl⟩)
        · exact hZ _ _ (Or.inr ⟨hg108, k9, rfl⟩)
