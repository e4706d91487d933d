/-! OUT -/
theorem kP.out {v w : Int32 × (Nat → Int32)} {h : xH} {i : Nat} {x : Int32} (K : kP v w h) : kP (upo v i x) w (x_puti h 6 2 (i + 1) x) := by
  obtain ⟨⟨c1, c2, c3⟩, r1, r2, r3⟩ := K
  refine ⟨⟨?_, c2, fun t ht => ⟨(c3 t ht).1, ?_⟩⟩, ?_, fun t ht => ?_, r3⟩
  · rw [x_vi_puti, if_neg (by omega)]; exact c1
  · show x_vi (x_puti h 6 2 (i + 1) x) 6 2 (t + 1) = if t = i then x else v.2 t
    rw [x_vi_puti]
    by_cases e9 : t = i
    · rw [if_pos ⟨rfl, rfl, by omega⟩, if_pos e9]
    · rw [if_neg (by omega), if_neg e9]; exact (c3 t ht).2
  · rw [x_vi_puti, if_neg (by omega)]; exact r1
  · rw [x_vi_puti, if_neg (by omega)]; exact r2 t ht
theorem tx79 {c : xP} {h : xH} {Z : xO → xH → Prop} {x1 : Int32} {x2 : Int32} {v w : Int32 × (Nat → Int32)} (V : VI c 0 0 h) (g0 : L c 7 1) (g2 : 0 ≤ x2.toInt ∧ x2.toInt ≤ 1) (K : kP v w h) (hZ : ∀ (o : xO) (g : xH), ((CI g ∧ x_pj g = c) ∧ (∃ b : Int32, o = .inl (some (.inl b)) ∧ (0 ≤ x1.toInt ∧ x1.toInt < v.1.toInt) ∧ b = v.2 x1.toNatClampNeg ∧ kP (upo v x1.toNatClampNeg x2) w g)) ∨ ((CI g ∧ x_pj g = c) ∧ o = .inr 1 ∧ ¬ (0 ≤ x1.toInt ∧ x1.toInt < v.1.toInt) ∧ kP v w g) → Z o g) : xC 1300 79 [.inr (.inr (7, 1)), .inl x1, .inl x2] h Z := by
  have ec : (x_vi h 7 4 1).toInt = v.1.toInt := by rw [K.1.1]
  have hr13 : x_vr h 7 2 1 = 1 := V.1.r13
  refine ⟨rfl, V.2.2.1, V.2.2.2, ?_⟩
  show xR _ 79 0 ([.inr (.inr (7, 1)), .inl x1, .inl x2, .inr (.inr (0, 0)), .inr (.inr (0, 0))], [], h) Z
  refine xR.blk c79_0 ?_
  refine q_iload rfl ?_
  refine v_iconst (k := 0) rfl (fun v1 e2 => ?_)
  refine q_aload rfl (by decide) ?_
  refine q_gfi (V.lv g0) ?_
  have e3 : 0 ≤ (x_vi h 7 4 1).toInt ∧ (x_vi h 7 4 1).toInt ≤ 16 := V.rg (K := 7) (k := 4) (lo := 0) (hi := 16) (by decide) g0
  refine v_iconst (k := 1) rfl (fun v4 e5 => ?_)
  refine v_isub (by have b8 := Int32.toInt_lt (x_vi h 7 4 1); have b9 := Int32.toInt_lt v4; omega) (fun v6 e7 => ?_)
  refine q_call (Nat.le_of_ble_eq_true rfl) (Nat.le_of_ble_eq_true rfl) (by rw [V.2.2.1]; decide) (by rw [V.2.2.2]; decide) ?_
  refine xC.up (tv25 (x0 := x1) (x1 := v1) (x2 := v6) V.set  (fun o8 g9 hp => ?_)) (by omega)
  obtain ⟨rfl, ⟨v11, rfl, f12⟩⟩ := hp
  show x_seq _ _ _ _ ([.inr (.inr (7, 1)), .inl x1, .inl x2, .inr (.inr (0, 0)), .inr (.inr (0, 0))], [.inl v11], h)
  refine q_call (Nat.le_of_ble_eq_true rfl) (Nat.le_of_ble_eq_true rfl) (by rw [V.2.2.1]; decide) (by rw [V.2.2.2]; decide) ?_
  refine ((tw45 (x0 := v11) V.set (fun _ _ hp => hp)).kp (v := v) (w := w) rfl K).mono (by omega) (fun o13 g14 hp => ?_)
  obtain ⟨hp, K9⟩ := hp
  rcases hp with ⟨rfl, rfl, f17⟩ | ⟨hg15, rfl, f9⟩
  · skip
    have V18 : VI c 1 6 (x_setc (x_setc h 0 0) (x_ce h + 1) (x_so h + 6)) := VI.after (mc := 1) (ms := 6) V ⟨V.1, V.2.1⟩
    show x_seq _ _ _ _ ([.inr (.inr (7, 1)), .inl x1, .inl x2, .inr (.inr (0, 0)), .inr (.inr (0, 0))], [], (x_setc (x_setc h 0 0) (x_ce h + 1) (x_so h + 6)))
    refine q_aload rfl (by decide) ?_
    refine q_gfr (V18.lv g0) ?_
    show x_seq _ _ _ _ ([.inr (.inr (7, 1)), .inl x1, .inl x2, .inr (.inr (0, 0)), .inr (.inr (0, 0))], [.inr (.inr (13, (x_vr h 7 2 1)))], (x_setc (x_setc h 0 0) (x_ce h + 1) (x_so h + 6)))
    refine q_iload rfl ?_
    refine q_aald (V18.lv (V18.nn (K := 7) (k := 2) (by decide) g0)) (V18.inn (L' := 16) (by decide) (V18.nn (K := 7) (k := 2) (by decide) g0) (by omega) (by omega)) ?_
    have f20 : L c 6 (x_vr h 13 (x_vr h 7 2 1) x1.toNatClampNeg) := V18.of (V18.1.2.2.2.2.2.2.2.1 1 x1.toNatClampNeg (V18.lv g0) (by have h9 := x_clamp (n := x1) (by omega); show (_ : Int) < (x_vi h 7 4 1).toInt; omega))
    show x_seq _ _ _ _ ([.inr (.inr (7, 1)), .inl x1, .inl x2, .inr (.inr (0, 0)), .inr (.inr (0, 0))], [.inr (.inr (6, (x_vr h 13 (x_vr h 7 2 1) x1.toNatClampNeg)))], (x_setc (x_setc h 0 0) (x_ce h + 1) (x_so h + 6)))
    refine q_astore (Nat.le_of_ble_eq_true rfl) ?_
    show x_seq _ _ _ _ ([.inr (.inr (7, 1)), .inl x1, .inl x2, .inr (.inr (6, (x_vr h 13 (x_vr h 7 2 1) x1.toNatClampNeg))), .inr (.inr (0, 0))], [], (x_setc (x_setc h 0 0) (x_ce h + 1) (x_so h + 6)))
    refine q_aload rfl (by decide) ?_
    have hcl := x_clamp (n := x1) (by omega)
    have hJ : (x_vr h 13 (x_vr h 7 2 1) x1.toNatClampNeg) = x1.toNatClampNeg + 1 := by rw [hr13]; exact (K.1.2.2 x1.toNatClampNeg (by omega)).1
    have e22 : 0 ≤ (x_vi h 6 2 (x_vr h 13 (x_vr h 7 2 1) x1.toNatClampNeg)).toInt ∧ (x_vi h 6 2 (x_vr h 13 (x_vr h 7 2 1) x1.toNatClampNeg)).toInt ≤ 1 := V18.rg (K := 6) (k := 2) (lo := 0) (hi := 1) (by decide) f20
    have eb : x_vi h 6 2 (x_vr h 13 (x_vr h 7 2 1) x1.toNatClampNeg) = v.2 x1.toNatClampNeg := by rw [hJ]; exact (K.1.2.2 x1.toNatClampNeg (by omega)).2
    refine q_gfi (V18.lv f20) ?_
    show x_seq _ _ _ _ (_, [.inl (x_vi h 6 2 (x_vr h 13 (x_vr h 7 2 1) x1.toNatClampNeg))], (x_setc (x_setc h 0 0) (x_ce h + 1) (x_so h + 6)))
    generalize x_vi h 6 2 (x_vr h 13 (x_vr h 7 2 1) x1.toNatClampNeg) = v21 at e22 eb ⊢
    refine q_istore (Nat.le_of_ble_eq_true rfl) ?_
    show x_seq _ _ _ _ ([.inr (.inr (7, 1)), .inl x1, .inl x2, .inr (.inr (6, (x_vr h 13 (x_vr h 7 2 1) x1.toNatClampNeg))), .inl v21], [], (x_setc (x_setc h 0 0) (x_ce h + 1) (x_so h + 6)))
    refine q_aload rfl (by decide) ?_
    refine q_iload rfl ?_
    refine q_pfz (V18.lv f20) (i32_01 (by omega)) ?_
    have V24 : VI c 1 6 (x_puti (x_setc (x_setc h 0 0) (x_ce h + 1) (x_so h + 6)) 6 2 (x_vr h 13 (x_vr h 7 2 1) x1.toNatClampNeg) x2) := ⟨V18.1.puti (fun lo hi hm => by simp only [x_rgl, List.mem_cons, Prod.mk.injEq, List.not_mem_nil, or_false] at hm; omega) (by omega) (by omega) (by omega), (x_pj_puti rfl).trans V18.2.1, V18.2.2.1, V18.2.2.2⟩
    have K24 : kP (upo v x1.toNatClampNeg x2) w (x_puti (x_setc (x_setc h 0 0) (x_ce h + 1) (x_so h + 6)) 6 2 (x_vr h 13 (x_vr h 7 2 1) x1.toNatClampNeg) x2) := by rw [hJ]; exact kP.out (h := (x_setc (x_setc h 0 0) (x_ce h + 1) (x_so h + 6))) K
    generalize x_puti (x_setc (x_setc h 0 0) (x_ce h + 1) (x_so h + 6)) 6 2 (x_vr h 13 (x_vr h 7 2 1) x1.toNatClampNeg) x2 = h23 at V24 K24 ⊢
    refine q_iload rfl ?_
    refine v_if_eq (fun d25 => ?_) (fun d25 => ?_)
    · skip
      refine xR.blk c79_52 ?_
      refine q_iload rfl ?_
      exact q_zret (i32_01 (by omega)) (hZ _ _ (Or.inl ⟨⟨V24.1, V24.2.1⟩, _, rfl, by omega, eb, K24⟩))
    · skip
      refine q_aload rfl (by decide) ?_
      refine q_gfr (V24.lv f20) ?_
      refine q_ifnull (fun d26 => ?_) (fun d26 => ?_)
      · skip
        refine xR.blk c79_52 ?_
        refine q_iload rfl ?_
        exact q_zret (i32_01 (by omega)) (hZ _ _ (Or.inl ⟨⟨V24.1, V24.2.1⟩, _, rfl, by omega, eb, K24⟩))
      · skip
        have f27 : L c 1 (x_vr h23 6 3 (x_vr h 13 (x_vr h 7 2 1) x1.toNatClampNeg)) := ⟨Nat.one_le_iff_ne_zero.mpr d26, (V24.nu (K := 6) (k := 3) (by decide) f20)⟩
        refine q_aload rfl (by decide) ?_
        refine q_aload rfl (by decide) ?_
        refine q_gfr (V24.lv f20) ?_
        refine v_iconst (k := 4) rfl (fun v28 e29 => ?_)
        refine q_callv rfl (by decide) (V24.lv g0) (Nat.le_of_ble_eq_true rfl) (Nat.le_of_ble_eq_true rfl) (by rw [V24.2.2.1]; decide) (by rw [V24.2.2.2]; decide) ?_
        refine ((tv59 (x0 := 1) (x1 := (x_vr h23 6 3 (x_vr h 13 (x_vr h 7 2 1) x1.toNatClampNeg))) (x2 := v28) V24.set g0 f27 (fun _ _ hp => hp)).kp (v := upo v x1.toNatClampNeg x2) (w := w) rfl K24).mono (by omega) (fun o30 g31 hp => ?_)
        obtain ⟨hp, K35⟩ := hp
        obtain ⟨hg32, rfl⟩ := hp
        have V35 := VI.after (mc := 0) (ms := 0) V24 hg32
        show x_seq _ _ _ _ ([.inr (.inr (7, 1)), .inl x1, .inl x2, .inr (.inr (6, (x_vr h 13 (x_vr h 7 2 1) x1.toNatClampNeg))), .inl v21], [], x_setc g31 (x_ce h23 + 0) (x_so h23 + 0))
        have K35 : kP (upo v x1.toNatClampNeg x2) w (x_setc g31 (x_ce h23 + 0) (x_so h23 + 0)) := K35
        generalize x_setc g31 (x_ce h23 + 0) (x_so h23 + 0) = h36 at V35 K35 ⊢
        refine q_goto ?_
        refine xR.blk c79_52 ?_
        refine q_iload rfl ?_
        exact q_zret (i32_01 (by omega)) (hZ _ _ (Or.inl ⟨⟨V35.1, V35.2.1⟩, _, rfl, by omega, eb, K35⟩))
  · exact hZ _ _ (Or.inr ⟨hg15, rfl, by omega, K9⟩)
theorem tx130 {h : xH} {Z : xO → xH → Prop} {F : xF} {x1 : Int32} {x2 : Int32} (S : MS h) (g2 : 0 ≤ x2.toInt ∧ x2.toInt ≤ 1) (M : MX 72 F) (hZ : ∀ (o : xO) (F' : xF), (MX 72 F') ∧ (∃ b : Int32, o = .inl (some (.inl b)) ∧ F' 8 20 = F 8 20 ∧ (((0 ≤ x1.toInt ∧ x1.toInt ≤ (F 8 20).toInt - 1) ∧ (F' 8 0).toInt = 0 ∧ b = F 42 x1.toNatClampNeg ∧ ∀ t, F' 42 t = if t = x1.toNatClampNeg then x2 else F 42 t) ∨ (¬ (0 ≤ x1.toInt ∧ x1.toInt ≤ (F 8 20).toInt - 1) ∧ (F' 8 0).toInt = 1 ∧ ∀ t, F' 42 t = F 42 t))) → Z o (mh h F')) : xC 13000 130 [.inr (.inr (8, 1)), .inl x1, .inl x2] (mh h F) Z := by
  refine ⟨rfl, S.2.2.1, S.2.2.2, ?_⟩
  have if_cong : ∀ t, (if 42 = 42 ∧ t = x1.toNatClampNeg then x2 else F 42 t) = if t = x1.toNatClampNeg then x2 else F 42 t := by
    intro t
    by_cases e9 : t = x1.toNatClampNeg
    · rw [if_pos ⟨rfl, e9⟩, if_pos e9]
    · rw [if_neg (fun y => e9 y.2), if_neg e9]
  have r20 := M.fl (k := 20) (lo := 0) (hi := 16) (by decide)
  show xR _ 130 0 ([.inr (.inr (8, 1)), .inl x1, .inl x2, .inr (.inr (0, 0))], [], mh h F) Z
  have jn1 : ∀ (sjn1_0 : Int32), (0 ≤ sjn1_0.toInt ∧ sjn1_0.toInt ≤ 1) → ((sjn1_0.toInt = 0 ∧ (0 ≤ x1.toInt ∧ x1.toInt ≤ (F 8 20).toInt - 1)) ∨ (sjn1_0.toInt = 1 ∧ ¬ (0 ≤ x1.toInt ∧ x1.toInt ≤ (F 8 20).toInt - 1))) → xR (12000) 130 20 ([.inr (.inr (8, 1)), .inl x1, .inl x2, .inr (.inr (0, 0))], [.inl sjn1_0, .inr (.inr (8, 1))], mh h F) Z := by
    intro sjn1_0 kjn1_0 kjn1_1
    refine xR.blk c130_20 ?_
    refine q_callv (j := 1) rfl (by decide) ⟨Nat.le_refl 1, Nat.le_of_eq S.1.symm⟩ (Nat.le_of_ble_eq_true rfl) (Nat.le_of_ble_eq_true rfl) (by show x_ce h + 0 ≤ 0; rw [S.2.2.1]; exact Nat.le_refl 0) (by show x_so h + 0 ≤ 0; rw [S.2.2.2]; exact Nat.le_refl 0) ?_
    refine xC.up (tv91 (h := x_setc h 0 0) (F := F) (x1 := sjn1_0) S.set  (fun o4 F5 hp => ?_)) (by omega)
    obtain ⟨q8, ⟨v7, rfl, q6⟩⟩ := hp
    subst q8
    show x_seq _ _ _ _ ([.inr (.inr (8, 1)), .inl x1, .inl x2, .inr (.inr (0, 0))], [.inl v7], mh h (x_u2 F 8 0 sjn1_0))
    refine v_if_eq (fun d9 => ?_) (fun d9 => ?_)
    · skip
      refine xR.blk c130_28 ?_
      refine q_aload rfl (by decide) ?_
      refine m_gfr S (n := 16) (by decide) ?_
      refine q_iload rfl ?_
      refine m_ald (k := 24) (n := 16) S (by decide) (by omega) (by omega) ?_
      have e10 : 0 ≤ (F 42 x1.toNatClampNeg).toInt ∧ (F 42 x1.toNatClampNeg).toInt ≤ 1 := M.rg (lo := 0) (hi := 1) (by decide) _
      show x_seq _ _ _ _ ([.inr (.inr (8, 1)), .inl x1, .inl x2, .inr (.inr (0, 0))], [.inl (F 42 x1.toNatClampNeg)], mh h (x_u2 F 8 0 sjn1_0))
      refine q_istore (Nat.le_of_ble_eq_true rfl) ?_
      show x_seq _ _ _ _ ([.inr (.inr (8, 1)), .inl x1, .inl x2, .inl (F 42 x1.toNatClampNeg)], [], mh h (x_u2 F 8 0 sjn1_0))
      refine q_aload rfl (by decide) ?_
      refine m_gfr S (n := 16) (by decide) ?_
      refine q_iload rfl ?_
      refine q_iload rfl ?_
      refine m_zst (k := 24) (n := 16) S (by decide) (by omega) (by omega) (i32_01 (by omega)) ?_
      show x_seq _ _ _ _ ([.inr (.inr (8, 1)), .inl x1, .inl x2, .inl (F 42 x1.toNatClampNeg)], [], mh h (x_u2 (x_u2 F 8 0 sjn1_0) 42 x1.toNatClampNeg x2))
      refine q_iload rfl ?_
      refine v_if_eq (fun d11 => ?_) (fun d11 => ?_)
      · skip
        refine xR.blk c130_66 ?_
        refine q_iload rfl ?_
        exact q_zret (i32_01 (by omega)) (hZ _ _ ⟨(MX.put (K := 42) (i := x1.toNatClampNeg) (v := x2) (MX.putf (k := 0) (v := sjn1_0) M (fun lo hi hm => by simp only [mfl, List.mem_cons, Prod.mk.injEq, List.not_mem_nil, or_false] at hm; omega)) (fun lo hi hm => by simp only [mrl, List.mem_cons, Prod.mk.injEq, List.not_mem_nil, or_false] at hm; omega) (by decide) (fun z => absurd z (by decide)) (Or.inl rfl)), ⟨_, rfl, rfl, Or.inl ⟨by omega, (show sjn1_0.toInt = 0 by omega), rfl, fun t => (show (if 42 = 42 ∧ t = x1.toNatClampNeg then x2 else F 42 t) = _ from if_cong t)⟩⟩⟩)
      · skip
        refine q_aload rfl (by decide) ?_
        refine m_gfr S (n := 16) (by decide) ?_
        refine q_iload rfl ?_
        refine m_ald (k := 23) (n := 16) S (by decide) (by omega) (by omega) ?_
        have e12 : -1 ≤ (F 41 x1.toNatClampNeg).toInt ∧ (F 41 x1.toNatClampNeg).toInt ≤ 71 := M.rg (lo := -1) (hi := 71) (by decide) _
        show x_seq _ _ _ _ ([.inr (.inr (8, 1)), .inl x1, .inl x2, .inl (F 42 x1.toNatClampNeg)], [.inl (F 41 x1.toNatClampNeg)], mh h (x_u2 (x_u2 F 8 0 sjn1_0) 42 x1.toNatClampNeg x2))
        refine v_if_lt (fun d13 => ?_) (fun d13 => ?_)
        · skip
          refine xR.blk c130_66 ?_
          refine q_iload rfl ?_
          exact q_zret (i32_01 (by omega)) (hZ _ _ ⟨(MX.put (K := 42) (i := x1.toNatClampNeg) (v := x2) (MX.putf (k := 0) (v := sjn1_0) M (fun lo hi hm => by simp only [mfl, List.mem_cons, Prod.mk.injEq, List.not_mem_nil, or_false] at hm; omega)) (fun lo hi hm => by simp only [mrl, List.mem_cons, Prod.mk.injEq, List.not_mem_nil, or_false] at hm; omega) (by decide) (fun z => absurd z (by decide)) (Or.inl rfl)), ⟨_, rfl, rfl, Or.inl ⟨by omega, (show sjn1_0.toInt = 0 by omega), rfl, fun t => (show (if 42 = 42 ∧ t = x1.toNatClampNeg then x2 else F 42 t) = _ from if_cong t)⟩⟩⟩)
        · skip
          refine q_aload rfl (by decide) ?_
          refine q_aload rfl (by decide) ?_
          refine m_gfr S (n := 16) (by decide) ?_
          refine q_iload rfl ?_
          refine m_ald (k := 23) (n := 16) S (by decide) (by omega) (by omega) ?_
          have e14 : -1 ≤ (F 41 x1.toNatClampNeg).toInt ∧ (F 41 x1.toNatClampNeg).toInt ≤ 71 := M.rg (lo := -1) (hi := 71) (by decide) _
          show x_seq _ _ _ _ ([.inr (.inr (8, 1)), .inl x1, .inl x2, .inl (F 42 x1.toNatClampNeg)], [.inl (F 41 x1.toNatClampNeg), .inr (.inr (8, 1))], mh h (x_u2 (x_u2 F 8 0 sjn1_0) 42 x1.toNatClampNeg x2))
          refine v_iconst (k := 4) rfl (fun v15 e16 => ?_)
          refine q_callv (j := 1) rfl (by decide) ⟨Nat.le_refl 1, Nat.le_of_eq S.1.symm⟩ (Nat.le_of_ble_eq_true rfl) (Nat.le_of_ble_eq_true rfl) (by show x_ce h + 0 ≤ 0; rw [S.2.2.1]; exact Nat.le_refl 0) (by show x_so h + 0 ≤ 0; rw [S.2.2.2]; exact Nat.le_refl 0) ?_
          refine xC.up (tv106 (h := x_setc h 0 0) (F := (x_u2 (x_u2 F 8 0 sjn1_0) 42 x1.toNatClampNeg x2)) (x1 := (F 41 x1.toNatClampNeg)) (x2 := v15) S.set (by omega) (MX.put (K := 42) (i := x1.toNatClampNeg) (v := x2) (MX.putf (k := 0) (v := sjn1_0) M (fun lo hi hm => by simp only [mfl, List.mem_cons, Prod.mk.injEq, List.not_mem_nil, or_false] at hm; omega)) (fun lo hi hm => by simp only [mrl, List.mem_cons, Prod.mk.injEq, List.not_mem_nil, or_false] at hm; omega) (by decide) (fun z => absurd z (by decide)) (Or.inl rfl)) (fun o17 F18 hp => ?_)) (by omega)
          obtain ⟨q21, rfl⟩ := hp
          show x_seq _ _ _ _ ([.inr (.inr (8, 1)), .inl x1, .inl x2, .inl (F 42 x1.toNatClampNeg)], [], mh h F18)
          refine q_goto ?_
          refine xR.blk c130_66 ?_
          refine q_iload rfl ?_
          exact q_zret (i32_01 (by omega)) (hZ _ _ ⟨q21.1, ⟨_, rfl, q21.2 8 20 rfl, Or.inl ⟨by omega, (by rw [q21.2 8 0 rfl]; show sjn1_0.toInt = 0; omega), rfl, fun t => by rw [q21.2 42 t rfl]; show (if 42 = 42 ∧ t = x1.toNatClampNeg then x2 else F 42 t) = _; exact if_cong t⟩⟩⟩)
    · skip
      refine v_iconst (k := 0) rfl (fun v22 e23 => ?_)
      exact q_zret (i32_01 (by omega)) (hZ _ _ ⟨(MX.putf (k := 0) (v := sjn1_0) M (fun lo hi hm => by simp only [mfl, List.mem_cons, Prod.mk.injEq, List.not_mem_nil, or_false] at hm; omega)), ⟨_, rfl, rfl, Or.inr ⟨by omega, (show sjn1_0.toInt = 1 by omega), fun t => rfl⟩⟩⟩)
  refine xR.blk c130_0 ?_
  refine q_aload rfl (by decide) ?_
  refine q_iload rfl ?_
  refine v_iconst (k := 0) rfl (fun v24 e25 => ?_)
  refine q_aload rfl (by decide) ?_
  refine m_gfi S ?_
  have e26 : 0 ≤ (F 8 20).toInt ∧ (F 8 20).toInt ≤ 16 := M.fl (lo := 0) (hi := 16) (by decide)
  refine v_iconst (k := 1) rfl (fun v27 e28 => ?_)
  refine v_isub (by omega) (fun v29 e30 => ?_)
  refine q_call (Nat.le_of_ble_eq_true rfl) (Nat.le_of_ble_eq_true rfl) (by show x_ce h + 0 ≤ 0; rw [S.2.2.1]; exact Nat.le_refl 0) (by show x_so h + 0 ≤ 0; rw [S.2.2.2]; exact Nat.le_refl 0) ?_
  refine xC.up (tv92 (h := x_setc h 0 0) (F := F) (x0 := x1) (x1 := v24) (x2 := v29) S.set  (fun o31 F32 hp => ?_)) (by omega)
  obtain ⟨hF35, ⟨v34, rfl, q33⟩⟩ := hp
  rw [hF35]
  show x_seq _ _ _ _ ([.inr (.inr (8, 1)), .inl x1, .inl x2, .inr (.inr (0, 0))], [.inl v34, .inr (.inr (8, 1))], mh h F)
  refine v_if_eq (fun d36 => ?_) (fun d36 => ?_)
  · skip
    refine xR.blk c130_19 ?_
    refine v_iconst (k := 1) rfl (fun v37 e38 => ?_)
    refine q_goto ?_
    exact (jn1 v37 (by omega) (by omega)).up (by omega)
  · skip
    refine v_iconst (k := 0) rfl (fun v39 e40 => ?_)
    refine q_goto ?_
    exact (jn1 v39 (by omega) (by omega)).up (by omega)
