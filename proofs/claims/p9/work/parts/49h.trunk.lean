/-! TRUNK AND OUT, in the class and in the reference: what they answer, what is behind them (printed by make_out.py) -/
theorem tx46 {c : xP} {h : xH} {Z : xO → xH → Prop} {x0 : Int32} (V : VI c 0 0 h) (hZ : ∀ (o : xO) (g : xH), (g = h ∧ (o = .inl none ∧ (x0.toInt ≠ 0))) ∨ ((CI g ∧ x_pj g = c) ∧ o = .inr 2 ∧ (x0.toInt = 0)) → Z o g) : xC 10 46 [.inl x0] h Z := by
  refine ⟨rfl, V.2.2.1, V.2.2.2, ?_⟩
  show xR _ 46 0 ([.inl x0], [], h) Z
  refine xR.blk c46_0 ?_
  refine q_iload rfl ?_
  refine v_if_ne (fun d1 => ?_) (fun d1 => ?_)
  · refine xR.blk c46_12 ?_
    exact q_ret (hZ _ _ (Or.inl ⟨rfl, ⟨rfl, by omega⟩⟩))
  · exact q_throw (Nat.le_of_ble_eq_true rfl) (by rw [V.2.2.1]; decide) (by rw [V.2.2.2]; decide) (fun d => hZ _ _ (Or.inr ⟨V.exc, rfl, by omega⟩))
theorem mq_at {h g : xH} (e : x_mq g = x_mq h) {K : Nat} (hK : xm_k K = true) : x_vi g K = x_vi h K ∧ x_vr g K = x_vr h K ∧ x_ln g K = x_ln h K ∧ x_cn g K = x_cn h K := by
  have := congrFun e K
  unfold x_mq at this
  rw [if_pos hK, if_pos hK] at this
  simp only [Option.some.injEq, Prod.mk.injEq] at this
  exact this
theorem CI.r13 {h : xH} (hC : CI h) : x_vr h 7 2 1 = 1 := by
  have l7 : x_live h 7 1 := ⟨Nat.le_refl 1, by rw [hC.2.2.2.2.2.2.1 7 1 (by decide)]; exact Nat.le_refl 1⟩
  have q := hC.1 7 2 1 (by decide) l7
  have a := q.1
  have b : x_vr h 7 2 1 ≤ x_cn h 13 := q.2
  rw [hC.2.2.2.2.2.2.1 13 1 (by decide)] at b
  omega
/-- a trunk more -/
def up1 (v : Int32 × (Nat → Int32)) : Int32 × (Nat → Int32) := (v.1 + 1, v.2)
/-- trunk i is out, or not -/
def upo (v : Int32 × (Nat → Int32)) (i : Nat) (x : Int32) : Int32 × (Nat → Int32) := (v.1, fun t => if t = i then x else v.2 t)
theorem tx40 {h : xH} {Z : xO → xH → Prop} {x0 : Nat} {x1 x2 : Int32} (hC : CI h) (hc : x_ce h = 0) (hs : x_so h = 0) (g0 : x_live h 6 x0) (hZ : ∀ (o : xO) (g : xH), (CI g ∧ x_pj g = x_pj h ∧ x_vi g 7 = x_vi h 7 ∧ x_vi g 6 2 = x_vi h 6 2 ∧ x_vr g = x_vr h) ∧ (o = .inl none) → Z o g) : xC 10 40 [.inr (.inr (6, x0)), .inl x1, .inl x2] h Z := by
  refine ⟨rfl, hc, hs, xR.blk c40_0 ?_⟩
  refine q_aload rfl (by decide) (q_objinit (by decide) g0.1 (Nat.le_of_ble_eq_true rfl) (q_aload rfl (by decide) (q_iload rfl (q_pfi g0 (q_aload rfl (by decide) (q_iload rfl (q_pfi g0 (q_ret (hZ _ _ ⟨⟨?_, ?_, ?_, ?_, rfl⟩, rfl⟩)))))))))
  · refine (hC.puti (fun lo hi hm => by simp [x_rgl] at hm) (by omega) (by omega) (by omega)).puti (fun lo hi hm => by simp [x_rgl] at hm) (by omega) (by omega) (by omega)
  · exact (x_pj_puti rfl).trans (x_pj_puti rfl)
  · funext a b
    rw [x_vi_puti, if_neg (by omega), x_vi_puti, if_neg (by omega)]
  · funext b
    rw [x_vi_puti, if_neg (by omega), x_vi_puti, if_neg (by omega)]
theorem tk_tail3 {c : xP} {a b n : Nat} {h : xH} {Z : xO → xH → Prop} {J : Nat → xS → Prop} {x1 x2 : Int32} (hn : 10 ≤ n) (V : VI c a b h) (ha : a + 1 ≤ 3) (hb : b + 4 ≤ 16) (g0 : L c 7 1) (htc : (x_vi h 7 4 1).toInt < 16) {v w : Int32 × (Nat → Int32)} (K : kP v w h) (hv0 : v.2 v.1.toNatClampNeg = 0) (hZ : ∀ (o : xO) (g : xH), (CI g ∧ x_mq g = x_mq h) ∧ (∃ b : Int32, o = .inl (some (.inl b))) ∧ kP (up1 v) w g → Z o g) :
    x_seq [(55, x_newo 6 4 3 16), (56, x_dup), (57, x_iload 1), (58, x_iload 2), (61, x_calli 40 3 0 0 3 16), (62, x_aast 13 6), (63, x_aload 0), (64, x_dup), (67, x_gfi 7 4), (68, x_iconst 1), (69, x_bin (fun x y => x + y)), (72, x_pfi 7 4), (73, x_aload 0), (76, x_gfi 7 4), (77, x_iconst 1), (78, x_bin (fun x y => x - y)), (79, x_iret)] (xC n) Z J
      ([.inr (.inr (7, 1)), .inl x1, .inl x2], [.inl (x_vi h 7 4 1), .inr (.inr (13, x_vr h 7 2 1))], h) := by
  have hrg := V.rg (K := 7) (k := 4) (lo := 0) (hi := 16) (by decide) g0
  have h13 := V.nn (K := 7) (k := 2) (by decide) g0
  have hC1 := V.1.new6
  have l7 : ∀ {K j : Nat}, x_live h K j → x_live (x_new h 6 4) K j := fun q => x_new_lv.mpr (Or.inl q)
  have lt : x_live (x_new h 6 4) 6 (x_cn h 6 + 1) := x_new_lv.mpr (Or.inr ⟨rfl, rfl⟩)
  refine q_newo (by rw [V.2.2.1]; omega) (by rw [V.2.2.2]; omega) (q_dup rfl (q_iload rfl (q_iload rfl (q_calli rfl (by decide) (by omega) (by decide) (Nat.le_of_ble_eq_true rfl) (Nat.le_of_ble_eq_true rfl) (by show x_ce h + 1 + 0 ≤ 3; rw [V.2.2.1]; omega) (by show x_so h + 4 + 0 ≤ 16; rw [V.2.2.2]; omega) ?_))))
  refine xC.up (tx40 (x0 := x_cn h 6 + 1) (x1 := x1) (x2 := x2) (h := x_setc (x_new h 6 4) 0 0) hC1 rfl rfl lt (fun o g hp => ?_)) hn
  obtain ⟨⟨hCg, hpj, hvi, hv62, hvr⟩, rfl⟩ := hp
  generalize hh2 : x_setc g (x_ce (x_new h 6 4) + 0) (x_so (x_new h 6 4) + 0) = h2
  have hC2 : CI h2 := by rw [← hh2]; exact hCg
  have hcn : x_cn h2 = x_cn (x_new h 6 4) := by rw [← hh2]; exact congrArg (fun p : xP => p.1) hpj
  have hvi2 : x_vi h2 7 = x_vi h 7 := by
    rw [← hh2]
    refine Eq.trans hvi ?_
    funext k j
    show (if 7 = 6 ∧ j = h.1 6 + 1 then 0 else x_vi h 7 k j) = _
    rw [if_neg (by omega)]
  have hvr2 : ∀ K k j, K ≠ 6 → x_vr h2 K k j = x_vr h K k j := by
    intro K k j hK
    rw [← hh2]
    show x_vr g K k j = _
    rw [hvr]
    exact if_neg (fun z => hK z.1)
  have hmq2 : x_mq h2 = x_mq h := by
    rw [← hh2]
    show x_mq g = _
    rw [x_mq_of hpj]
    exact x_mq_new (N := 4) rfl
  have lv2 : ∀ {K j : Nat}, x_live (x_new h 6 4) K j → x_live h2 K j := fun q => ⟨q.1, by rw [hcn]; exact q.2⟩
  have l13 : x_live h2 13 (x_vr h 7 2 1) := lv2 (l7 (V.lv h13))
  have l72 : x_live h2 7 1 := lv2 (l7 (V.lv g0))
  have hln : x_ln h2 13 (x_vr h 7 2 1) = 16 := hC2.2.2.2.1 13 16 _ (by decide) l13
  have hcl := x_clamp (n := x_vi h 7 4 1) hrg.1
  show x_seq ((62, x_aast 13 6) :: _) _ _ _ ([.inr (.inr (7, 1)), .inl x1, .inl x2], [.inr (.inr (6, x_cn h 6 + 1)), .inl (x_vi h 7 4 1), .inr (.inr (13, x_vr h 7 2 1))], h2)
  refine q_aast l13 ⟨hrg.1, by rw [hln]; omega⟩ ?_
  have hC3 := hC2.put13 (j := x_vr h 7 2 1) (i := (x_vi h 7 4 1).toNatClampNeg) (lv2 lt)
  refine q_aload rfl (by decide) (q_dup rfl (q_gfi l72 (q_iconst (q_bin (q_pfi l72 ?_)))))
  have e7 : x_vi (x_putr h2 13 (x_vr h 7 2 1) (x_vi h 7 4 1).toNatClampNeg (x_cn h 6 + 1)) 7 4 1 = x_vi h 7 4 1 := congrFun (congrFun hvi2 4) 1
  have e1 : (1 : Int32).toInt = 1 := rfl
  have eA : (x_vi h 7 4 1 + 1).toInt = (x_vi h 7 4 1).toInt + 1 := by rw [i32_add (by rw [e1]; omega) (by rw [e1]; omega), e1]
  have hv262 : ∀ j, x_vi h2 6 2 j = if j = x_cn h 6 + 1 then 0 else x_vi h 6 2 j := by
    intro j
    rw [← hh2]
    refine (congrFun hv62 j).trans ?_
    by_cases e9 : j = x_cn h 6 + 1
    · exact (if_pos (c := 6 = 6 ∧ j = x_cn h 6 + 1) ⟨rfl, e9⟩).trans (if_pos e9).symm
    · exact (if_neg (c := 6 = 6 ∧ j = x_cn h 6 + 1) (fun y => e9 y.2)).trans (if_neg e9).symm
  have hr13 : x_vr h 7 2 1 = 1 := V.1.r13
  refine q_aload rfl (by decide) (q_gfi l72 (q_iconst (q_bin (q_iret (hZ _ _ ⟨⟨?_, ?_⟩, ⟨_, rfl⟩, ?_⟩)))))
  · refine CI.put74 hC3 (by rw [e7, eA]; omega) (fun i hi => ?_)
    rw [e7, eA] at hi
    have e8 : x_vr (x_putr h2 13 (x_vr h 7 2 1) (x_vi h 7 4 1).toNatClampNeg (x_cn h 6 + 1)) 7 2 1 = x_vr h 7 2 1 := by
      rw [x_vr_putr, if_neg (by omega)]; exact hvr2 7 2 1 (by omega)
    rw [e8, x_vr_putr]
    by_cases q : 13 = 13 ∧ x_vr h 7 2 1 = x_vr h 7 2 1 ∧ i = (x_vi h 7 4 1).toNatClampNeg
    · rw [if_pos q]; exact lv2 lt
    · rw [if_neg q, hvr2 13 _ i (by omega)]
      have hlt : (i : Int) < (x_vi h 7 4 1).toInt := by
        have : i ≠ (x_vi h 7 4 1).toNatClampNeg := fun z => q ⟨rfl, rfl, z⟩
        omega
      exact lv2 (l7 (V.1.2.2.2.2.2.2.2.1 1 i (V.lv g0) hlt))
  · rw [x_mq_puti rfl, x_mq_putr rfl, hmq2]
  · have hmqG : x_mq (x_puti (x_putr h2 13 (x_vr h 7 2 1) (x_vi h 7 4 1).toNatClampNeg (x_cn h 6 + 1)) 7 4 1 (x_vi (x_putr h2 13 (x_vr h 7 2 1) (x_vi h 7 4 1).toNatClampNeg (x_cn h 6 + 1)) 7 4 1 + 1)) = x_mq h := by rw [x_mq_puti rfl, x_mq_putr rfl, hmq2]
    obtain ⟨⟨c1, c2, c3⟩, r1, r2, r3⟩ := K
    rw [c1] at eA hcl hrg
    have hcl1 := x_clamp (n := v.1 + 1) (by omega)
    refine ⟨⟨?_, ?_, fun t ht => ?_⟩, (congrFun (congrFun (mq_at hmqG (K := 8) rfl).1 20) 1).trans r1, fun t ht => (congrFun (congrFun (mq_at hmqG (K := 42) rfl).1 1) t).trans (r2 t ht), r3⟩
    · rw [x_vi_puti, if_pos ⟨rfl, rfl, rfl⟩, e7, c1]
      rfl
    · show x_cn h2 6 = (v.1 + 1).toNatClampNeg
      rw [hcn, x_new_cn, if_pos rfl, c2]
      omega
    · have ht : (t : Int) < (v.1 + 1).toInt := ht
      refine ⟨?_, ?_⟩
      · show x_vr (x_putr h2 13 (x_vr h 7 2 1) (x_vi h 7 4 1).toNatClampNeg (x_cn h 6 + 1)) 13 1 t = t + 1
        rw [x_vr_putr, hr13, c1]
        by_cases e9 : 13 = 13 ∧ 1 = 1 ∧ t = v.1.toNatClampNeg
        · rw [if_pos e9, c2, e9.2.2]
        · rw [if_neg e9, hvr2 13 1 t (by omega)]
          have : t ≠ v.1.toNatClampNeg := fun y => e9 ⟨rfl, rfl, y⟩
          exact (c3 t (by omega)).1
      · show x_vi (x_puti (x_putr h2 13 (x_vr h 7 2 1) (x_vi h 7 4 1).toNatClampNeg (x_cn h 6 + 1)) 7 4 1 (x_vi (x_putr h2 13 (x_vr h 7 2 1) (x_vi h 7 4 1).toNatClampNeg (x_cn h 6 + 1)) 7 4 1 + 1)) 6 2 (t + 1) = v.2 t
        rw [x_vi_puti, if_neg (by omega)]
        show x_vi h2 6 2 (t + 1) = v.2 t
        rw [hv262, c2]
        by_cases e9 : t + 1 = v.1.toNatClampNeg + 1
        · rw [if_pos e9, show t = v.1.toNatClampNeg by omega, hv0]
        · rw [if_neg e9]
          exact (c3 t (by omega)).2
theorem tx47 {c : xP} {h : xH} {Z : xO → xH → Prop} {x1 : Int32} {x2 : Int32} {v w : Int32 × (Nat → Int32)} (V : VI c 0 0 h) (g0 : L c 7 1) (K : kP v w h) (hv0 : v.1.toInt ≤ 15 → v.2 v.1.toNatClampNeg = 0) (hZ : ∀ (o : xO) (g : xH), ((CI g ∧ x_mq g = x_mq h) ∧ (∃ b : Int32, o = .inl (some (.inl b))) ∧ ((0 ≤ x1.toInt ∧ x1.toInt ≤ 2) ∧ (0 ≤ x2.toInt ∧ x2.toInt ≤ 2) ∧ x1.toInt ≠ x2.toInt) ∧ v.1.toInt ≤ 15 ∧ kP (up1 v) w g) ∨ ((CI g ∧ x_pj g = c) ∧ o = .inr 1 ∧ ¬ ((0 ≤ x1.toInt ∧ x1.toInt ≤ 2) ∧ (0 ≤ x2.toInt ∧ x2.toInt ≤ 2) ∧ x1.toInt ≠ x2.toInt) ∧ kP v w g) ∨ ((CI g ∧ x_pj g = c) ∧ o = .inr 2 ∧ ((0 ≤ x1.toInt ∧ x1.toInt ≤ 2) ∧ (0 ≤ x2.toInt ∧ x2.toInt ≤ 2) ∧ x1.toInt ≠ x2.toInt) ∧ ¬ v.1.toInt ≤ 15 ∧ kP v w g) → Z o g) : xC 100 47 [.inr (.inr (7, 1)), .inl x1, .inl x2] h Z := by
  have ec : (x_vi h 7 4 1).toInt = v.1.toInt := by rw [K.1.1]
  refine ⟨rfl, V.2.2.1, V.2.2.2, ?_⟩
  show xR _ 47 0 ([.inr (.inr (7, 1)), .inl x1, .inl x2], [], h) Z
  refine xR.blk c47_0 ?_
  refine q_iload rfl ?_
  refine q_call (Nat.le_of_ble_eq_true rfl) (Nat.le_of_ble_eq_true rfl) (by rw [V.2.2.1]; decide) (by rw [V.2.2.2]; decide) ?_
  refine xC.up (tv44 (x0 := x1) V.set  (fun o1 g2 hp => ?_)) (by omega)
  obtain ⟨rfl, ⟨v4, rfl, f5⟩⟩ := hp
  show x_seq _ _ _ _ ([.inr (.inr (7, 1)), .inl x1, .inl x2], [.inl v4], h)
  refine v_if_eq (fun d6 => ?_) (fun d6 => ?_)
  · skip
    refine xR.blk c47_23 ?_
    refine v_iconst (k := 0) rfl (fun v7 e8 => ?_)
    refine q_goto ?_
    refine xR.blk c47_24 ?_
    refine q_call (Nat.le_of_ble_eq_true rfl) (Nat.le_of_ble_eq_true rfl) (by rw [V.2.2.1]; decide) (by rw [V.2.2.2]; decide) ?_
    refine ((tw45 (x0 := v7) V.set (fun _ _ hp => hp)).kp (v := v) (w := w) rfl K).mono (by omega) (fun o9 g10 hp => ?_)
    obtain ⟨hp, K9⟩ := hp
    rcases hp with ⟨rfl, rfl, f13⟩ | ⟨hg11, rfl, f9⟩
    · skip
      have V14 : VI c 1 6 (x_setc (x_setc h 0 0) (x_ce h + 1) (x_so h + 6)) := VI.after (mc := 1) (ms := 6) V ⟨V.1, V.2.1⟩
      show x_seq _ _ _ _ ([.inr (.inr (7, 1)), .inl x1, .inl x2], [], (x_setc (x_setc h 0 0) (x_ce h + 1) (x_so h + 6)))
      refine q_aload rfl (by decide) ?_
      refine q_gfi (V14.lv g0) ?_
      have e15 : 0 ≤ (x_vi h 7 4 1).toInt ∧ (x_vi h 7 4 1).toInt ≤ 16 := V14.rg (K := 7) (k := 4) (lo := 0) (hi := 16) (by decide) g0
      show x_seq _ _ _ _ ([.inr (.inr (7, 1)), .inl x1, .inl x2], [.inl (x_vi h 7 4 1)], (x_setc (x_setc h 0 0) (x_ce h + 1) (x_so h + 6)))
      refine v_iconst (k := 16) rfl (fun v16 e17 => ?_)
      refine v_icmp_ge (fun d18 => ?_) (fun d18 => ?_)
      · skip
        refine xR.blk c47_40 ?_
        refine v_iconst (k := 0) rfl (fun v19 e20 => ?_)
        refine q_goto ?_
        refine xR.blk c47_41 ?_
        refine q_call (Nat.le_of_ble_eq_true rfl) (Nat.le_of_ble_eq_true rfl) (by rw [V14.2.2.1]; decide) (by rw [V14.2.2.2]; decide) ?_
        refine ((tx46 (x0 := v19) V14.set (fun _ _ hp => hp)).kp (v := v) (w := w) rfl K).mono (by omega) (fun o21 g22 hp => ?_)
        obtain ⟨hp, K9⟩ := hp
        rcases hp with ⟨rfl, rfl, f25⟩ | ⟨hg23, rfl, f9⟩
        · skip
          have V26 : VI c 2 12 (x_setc (x_setc (x_setc (x_setc h 0 0) (x_ce h + 1) (x_so h + 6)) 0 0) (x_ce (x_setc (x_setc h 0 0) (x_ce h + 1) (x_so h + 6)) + 1) (x_so (x_setc (x_setc h 0 0) (x_ce h + 1) (x_so h + 6)) + 6)) := VI.after (mc := 1) (ms := 6) V14 ⟨V14.1, V14.2.1⟩
          show x_seq _ _ _ _ ([.inr (.inr (7, 1)), .inl x1, .inl x2], [], (x_setc (x_setc (x_setc (x_setc h 0 0) (x_ce h + 1) (x_so h + 6)) 0 0) (x_ce (x_setc (x_setc h 0 0) (x_ce h + 1) (x_so h + 6)) + 1) (x_so (x_setc (x_setc h 0 0) (x_ce h + 1) (x_so h + 6)) + 6)))
          refine q_aload rfl (by decide) ?_
          refine q_gfr (V26.lv g0) ?_
          show x_seq _ _ _ _ ([.inr (.inr (7, 1)), .inl x1, .inl x2], [.inr (.inr (13, (x_vr h 7 2 1)))], (x_setc (x_setc (x_setc (x_setc h 0 0) (x_ce h + 1) (x_so h + 6)) 0 0) (x_ce (x_setc (x_setc h 0 0) (x_ce h + 1) (x_so h + 6)) + 1) (x_so (x_setc (x_setc h 0 0) (x_ce h + 1) (x_so h + 6)) + 6)))
          refine q_aload rfl (by decide) ?_
          refine q_gfi (V26.lv g0) ?_
          have e27 : 0 ≤ (x_vi h 7 4 1).toInt ∧ (x_vi h 7 4 1).toInt ≤ 16 := V26.rg (K := 7) (k := 4) (lo := 0) (hi := 16) (by decide) g0
          show x_seq _ _ _ _ ([.inr (.inr (7, 1)), .inl x1, .inl x2], [.inl (x_vi h 7 4 1), .inr (.inr (13, (x_vr h 7 2 1)))], (x_setc (x_setc (x_setc (x_setc h 0 0) (x_ce h + 1) (x_so h + 6)) 0 0) (x_ce (x_setc (x_setc h 0 0) (x_ce h + 1) (x_so h + 6)) + 1) (x_so (x_setc (x_setc h 0 0) (x_ce h + 1) (x_so h + 6)) + 6)))
          exact tk_tail3 (by omega) V26 (by decide) (by decide) g0 (show (x_vi h 7 4 1).toInt < 16 by omega) K (hv0 (by omega)) (fun o g hp => hZ _ _ (Or.inl ⟨hp.1, hp.2.1, by omega, by omega, hp.2.2⟩))
        · exact hZ _ _ (Or.inr (Or.inr ⟨hg23, rfl, by omega, by omega, K9⟩))
      · skip
        refine v_iconst (k := 1) rfl (fun v28 e29 => ?_)
        refine q_goto ?_
        refine xR.blk c47_41 ?_
        refine q_call (Nat.le_of_ble_eq_true rfl) (Nat.le_of_ble_eq_true rfl) (by rw [V14.2.2.1]; decide) (by rw [V14.2.2.2]; decide) ?_
        refine ((tx46 (x0 := v28) V14.set (fun _ _ hp => hp)).kp (v := v) (w := w) rfl K).mono (by omega) (fun o30 g31 hp => ?_)
        obtain ⟨hp, K9⟩ := hp
        rcases hp with ⟨rfl, rfl, f34⟩ | ⟨hg32, rfl, f9⟩
        · skip
          have V35 : VI c 2 12 (x_setc (x_setc (x_setc (x_setc h 0 0) (x_ce h + 1) (x_so h + 6)) 0 0) (x_ce (x_setc (x_setc h 0 0) (x_ce h + 1) (x_so h + 6)) + 1) (x_so (x_setc (x_setc h 0 0) (x_ce h + 1) (x_so h + 6)) + 6)) := VI.after (mc := 1) (ms := 6) V14 ⟨V14.1, V14.2.1⟩
          show x_seq _ _ _ _ ([.inr (.inr (7, 1)), .inl x1, .inl x2], [], (x_setc (x_setc (x_setc (x_setc h 0 0) (x_ce h + 1) (x_so h + 6)) 0 0) (x_ce (x_setc (x_setc h 0 0) (x_ce h + 1) (x_so h + 6)) + 1) (x_so (x_setc (x_setc h 0 0) (x_ce h + 1) (x_so h + 6)) + 6)))
          refine q_aload rfl (by decide) ?_
          refine q_gfr (V35.lv g0) ?_
          show x_seq _ _ _ _ ([.inr (.inr (7, 1)), .inl x1, .inl x2], [.inr (.inr (13, (x_vr h 7 2 1)))], (x_setc (x_setc (x_setc (x_setc h 0 0) (x_ce h + 1) (x_so h + 6)) 0 0) (x_ce (x_setc (x_setc h 0 0) (x_ce h + 1) (x_so h + 6)) + 1) (x_so (x_setc (x_setc h 0 0) (x_ce h + 1) (x_so h + 6)) + 6)))
          refine q_aload rfl (by decide) ?_
          refine q_gfi (V35.lv g0) ?_
          have e36 : 0 ≤ (x_vi h 7 4 1).toInt ∧ (x_vi h 7 4 1).toInt ≤ 16 := V35.rg (K := 7) (k := 4) (lo := 0) (hi := 16) (by decide) g0
          show x_seq _ _ _ _ ([.inr (.inr (7, 1)), .inl x1, .inl x2], [.inl (x_vi h 7 4 1), .inr (.inr (13, (x_vr h 7 2 1)))], (x_setc (x_setc (x_setc (x_setc h 0 0) (x_ce h + 1) (x_so h + 6)) 0 0) (x_ce (x_setc (x_setc h 0 0) (x_ce h + 1) (x_so h + 6)) + 1) (x_so (x_setc (x_setc h 0 0) (x_ce h + 1) (x_so h + 6)) + 6)))
          exact tk_tail3 (by omega) V35 (by decide) (by decide) g0 (show (x_vi h 7 4 1).toInt < 16 by omega) K (hv0 (by omega)) (fun o g hp => hZ _ _ (Or.inl ⟨hp.1, hp.2.1, by omega, by omega, hp.2.2⟩))
        · exact hZ _ _ (Or.inr (Or.inr ⟨hg32, rfl, by omega, by omega, K9⟩))
    · exact hZ _ _ (Or.inr (Or.inl ⟨hg11, rfl, by omega, K9⟩))
  · skip
    refine q_iload rfl ?_
    refine q_call (Nat.le_of_ble_eq_true rfl) (Nat.le_of_ble_eq_true rfl) (by rw [V.2.2.1]; decide) (by rw [V.2.2.2]; decide) ?_
    refine xC.up (tv44 (x0 := x2) V.set  (fun o37 g38 hp => ?_)) (by omega)
    obtain ⟨rfl, ⟨v40, rfl, f41⟩⟩ := hp
    show x_seq _ _ _ _ ([.inr (.inr (7, 1)), .inl x1, .inl x2], [.inl v40], h)
    refine v_if_eq (fun d42 => ?_) (fun d42 => ?_)
    · skip
      refine xR.blk c47_23 ?_
      refine v_iconst (k := 0) rfl (fun v43 e44 => ?_)
      refine q_goto ?_
      refine xR.blk c47_24 ?_
      refine q_call (Nat.le_of_ble_eq_true rfl) (Nat.le_of_ble_eq_true rfl) (by rw [V.2.2.1]; decide) (by rw [V.2.2.2]; decide) ?_
      refine ((tw45 (x0 := v43) V.set (fun _ _ hp => hp)).kp (v := v) (w := w) rfl K).mono (by omega) (fun o45 g46 hp => ?_)
      obtain ⟨hp, K9⟩ := hp
      rcases hp with ⟨rfl, rfl, f49⟩ | ⟨hg47, rfl, f9⟩
      · skip
        have V50 : VI c 1 6 (x_setc (x_setc h 0 0) (x_ce h + 1) (x_so h + 6)) := VI.after (mc := 1) (ms := 6) V ⟨V.1, V.2.1⟩
        show x_seq _ _ _ _ ([.inr (.inr (7, 1)), .inl x1, .inl x2], [], (x_setc (x_setc h 0 0) (x_ce h + 1) (x_so h + 6)))
        refine q_aload rfl (by decide) ?_
        refine q_gfi (V50.lv g0) ?_
        have e51 : 0 ≤ (x_vi h 7 4 1).toInt ∧ (x_vi h 7 4 1).toInt ≤ 16 := V50.rg (K := 7) (k := 4) (lo := 0) (hi := 16) (by decide) g0
        show x_seq _ _ _ _ ([.inr (.inr (7, 1)), .inl x1, .inl x2], [.inl (x_vi h 7 4 1)], (x_setc (x_setc h 0 0) (x_ce h + 1) (x_so h + 6)))
        refine v_iconst (k := 16) rfl (fun v52 e53 => ?_)
        refine v_icmp_ge (fun d54 => ?_) (fun d54 => ?_)
        · skip
          refine xR.blk c47_40 ?_
          refine v_iconst (k := 0) rfl (fun v55 e56 => ?_)
          refine q_goto ?_
          refine xR.blk c47_41 ?_
          refine q_call (Nat.le_of_ble_eq_true rfl) (Nat.le_of_ble_eq_true rfl) (by rw [V50.2.2.1]; decide) (by rw [V50.2.2.2]; decide) ?_
          refine ((tx46 (x0 := v55) V50.set (fun _ _ hp => hp)).kp (v := v) (w := w) rfl K).mono (by omega) (fun o57 g58 hp => ?_)
          obtain ⟨hp, K9⟩ := hp
          rcases hp with ⟨rfl, rfl, f61⟩ | ⟨hg59, rfl, f9⟩
          · skip
            have V62 : VI c 2 12 (x_setc (x_setc (x_setc (x_setc h 0 0) (x_ce h + 1) (x_so h + 6)) 0 0) (x_ce (x_setc (x_setc h 0 0) (x_ce h + 1) (x_so h + 6)) + 1) (x_so (x_setc (x_setc h 0 0) (x_ce h + 1) (x_so h + 6)) + 6)) := VI.after (mc := 1) (ms := 6) V50 ⟨V50.1, V50.2.1⟩
            show x_seq _ _ _ _ ([.inr (.inr (7, 1)), .inl x1, .inl x2], [], (x_setc (x_setc (x_setc (x_setc h 0 0) (x_ce h + 1) (x_so h + 6)) 0 0) (x_ce (x_setc (x_setc h 0 0) (x_ce h + 1) (x_so h + 6)) + 1) (x_so (x_setc (x_setc h 0 0) (x_ce h + 1) (x_so h + 6)) + 6)))
            refine q_aload rfl (by decide) ?_
            refine q_gfr (V62.lv g0) ?_
            show x_seq _ _ _ _ ([.inr (.inr (7, 1)), .inl x1, .inl x2], [.inr (.inr (13, (x_vr h 7 2 1)))], (x_setc (x_setc (x_setc (x_setc h 0 0) (x_ce h + 1) (x_so h + 6)) 0 0) (x_ce (x_setc (x_setc h 0 0) (x_ce h + 1) (x_so h + 6)) + 1) (x_so (x_setc (x_setc h 0 0) (x_ce h + 1) (x_so h + 6)) + 6)))
            refine q_aload rfl (by decide) ?_
            refine q_gfi (V62.lv g0) ?_
            have e63 : 0 ≤ (x_vi h 7 4 1).toInt ∧ (x_vi h 7 4 1).toInt ≤ 16 := V62.rg (K := 7) (k := 4) (lo := 0) (hi := 16) (by decide) g0
            show x_seq _ _ _ _ ([.inr (.inr (7, 1)), .inl x1, .inl x2], [.inl (x_vi h 7 4 1), .inr (.inr (13, (x_vr h 7 2 1)))], (x_setc (x_setc (x_setc (x_setc h 0 0) (x_ce h + 1) (x_so h + 6)) 0 0) (x_ce (x_setc (x_setc h 0 0) (x_ce h + 1) (x_so h + 6)) + 1) (x_so (x_setc (x_setc h 0 0) (x_ce h + 1) (x_so h + 6)) + 6)))
            exact tk_tail3 (by omega) V62 (by decide) (by decide) g0 (show (x_vi h 7 4 1).toInt < 16 by omega) K (hv0 (by omega)) (fun o g hp => hZ _ _ (Or.inl ⟨hp.1, hp.2.1, by omega, by omega, hp.2.2⟩))
          · exact hZ _ _ (Or.inr (Or.inr ⟨hg59, rfl, by omega, by omega, K9⟩))
        · skip
          refine v_iconst (k := 1) rfl (fun v64 e65 => ?_)
          refine q_goto ?_
          refine xR.blk c47_41 ?_
          refine q_call (Nat.le_of_ble_eq_true rfl) (Nat.le_of_ble_eq_true rfl) (by rw [V50.2.2.1]; decide) (by rw [V50.2.2.2]; decide) ?_
          refine ((tx46 (x0 := v64) V50.set (fun _ _ hp => hp)).kp (v := v) (w := w) rfl K).mono (by omega) (fun o66 g67 hp => ?_)
          obtain ⟨hp, K9⟩ := hp
          rcases hp with ⟨rfl, rfl, f70⟩ | ⟨hg68, rfl, f9⟩
          · skip
            have V71 : VI c 2 12 (x_setc (x_setc (x_setc (x_setc h 0 0) (x_ce h + 1) (x_so h + 6)) 0 0) (x_ce (x_setc (x_setc h 0 0) (x_ce h + 1) (x_so h + 6)) + 1) (x_so (x_setc (x_setc h 0 0) (x_ce h + 1) (x_so h + 6)) + 6)) := VI.after (mc := 1) (ms := 6) V50 ⟨V50.1, V50.2.1⟩
            show x_seq _ _ _ _ ([.inr (.inr (7, 1)), .inl x1, .inl x2], [], (x_setc (x_setc (x_setc (x_setc h 0 0) (x_ce h + 1) (x_so h + 6)) 0 0) (x_ce (x_setc (x_setc h 0 0) (x_ce h + 1) (x_so h + 6)) + 1) (x_so (x_setc (x_setc h 0 0) (x_ce h + 1) (x_so h + 6)) + 6)))
            refine q_aload rfl (by decide) ?_
            refine q_gfr (V71.lv g0) ?_
            show x_seq _ _ _ _ ([.inr (.inr (7, 1)), .inl x1, .inl x2], [.inr (.inr (13, (x_vr h 7 2 1)))], (x_setc (x_setc (x_setc (x_setc h 0 0) (x_ce h + 1) (x_so h + 6)) 0 0) (x_ce (x_setc (x_setc h 0 0) (x_ce h + 1) (x_so h + 6)) + 1) (x_so (x_setc (x_setc h 0 0) (x_ce h + 1) (x_so h + 6)) + 6)))
            refine q_aload rfl (by decide) ?_
            refine q_gfi (V71.lv g0) ?_
            have e72 : 0 ≤ (x_vi h 7 4 1).toInt ∧ (x_vi h 7 4 1).toInt ≤ 16 := V71.rg (K := 7) (k := 4) (lo := 0) (hi := 16) (by decide) g0
            show x_seq _ _ _ _ ([.inr (.inr (7, 1)), .inl x1, .inl x2], [.inl (x_vi h 7 4 1), .inr (.inr (13, (x_vr h 7 2 1)))], (x_setc (x_setc (x_setc (x_setc h 0 0) (x_ce h + 1) (x_so h + 6)) 0 0) (x_ce (x_setc (x_setc h 0 0) (x_ce h + 1) (x_so h + 6)) + 1) (x_so (x_setc (x_setc h 0 0) (x_ce h + 1) (x_so h + 6)) + 6)))
            exact tk_tail3 (by omega) V71 (by decide) (by decide) g0 (show (x_vi h 7 4 1).toInt < 16 by omega) K (hv0 (by omega)) (fun o g hp => hZ _ _ (Or.inl ⟨hp.1, hp.2.1, by omega, by omega, hp.2.2⟩))
          · exact hZ _ _ (Or.inr (Or.inr ⟨hg68, rfl, by omega, by omega, K9⟩))
      · exact hZ _ _ (Or.inr (Or.inl ⟨hg47, rfl, by omega, K9⟩))
    · skip
      refine q_iload rfl ?_
      refine q_iload rfl ?_
      refine v_icmp_eq (fun d73 => ?_) (fun d73 => ?_)
      · skip
        refine xR.blk c47_23 ?_
        refine v_iconst (k := 0) rfl (fun v74 e75 => ?_)
        refine q_goto ?_
        refine xR.blk c47_24 ?_
        refine q_call (Nat.le_of_ble_eq_true rfl) (Nat.le_of_ble_eq_true rfl) (by rw [V.2.2.1]; decide) (by rw [V.2.2.2]; decide) ?_
        refine ((tw45 (x0 := v74) V.set (fun _ _ hp => hp)).kp (v := v) (w := w) rfl K).mono (by omega) (fun o76 g77 hp => ?_)
        obtain ⟨hp, K9⟩ := hp
        rcases hp with ⟨rfl, rfl, f80⟩ | ⟨hg78, rfl, f9⟩
        · skip
          have V81 : VI c 1 6 (x_setc (x_setc h 0 0) (x_ce h + 1) (x_so h + 6)) := VI.after (mc := 1) (ms := 6) V ⟨V.1, V.2.1⟩
          show x_seq _ _ _ _ ([.inr (.inr (7, 1)), .inl x1, .inl x2], [], (x_setc (x_setc h 0 0) (x_ce h + 1) (x_so h + 6)))
          refine q_aload rfl (by decide) ?_
          refine q_gfi (V81.lv g0) ?_
          have e82 : 0 ≤ (x_vi h 7 4 1).toInt ∧ (x_vi h 7 4 1).toInt ≤ 16 := V81.rg (K := 7) (k := 4) (lo := 0) (hi := 16) (by decide) g0
          show x_seq _ _ _ _ ([.inr (.inr (7, 1)), .inl x1, .inl x2], [.inl (x_vi h 7 4 1)], (x_setc (x_setc h 0 0) (x_ce h + 1) (x_so h + 6)))
          refine v_iconst (k := 16) rfl (fun v83 e84 => ?_)
          refine v_icmp_ge (fun d85 => ?_) (fun d85 => ?_)
          · skip
            refine xR.blk c47_40 ?_
            refine v_iconst (k := 0) rfl (fun v86 e87 => ?_)
            refine q_goto ?_
            refine xR.blk c47_41 ?_
            refine q_call (Nat.le_of_ble_eq_true rfl) (Nat.le_of_ble_eq_true rfl) (by rw [V81.2.2.1]; decide) (by rw [V81.2.2.2]; decide) ?_
            refine ((tx46 (x0 := v86) V81.set (fun _ _ hp => hp)).kp (v := v) (w := w) rfl K).mono (by omega) (fun o88 g89 hp => ?_)
            obtain ⟨hp, K9⟩ := hp
            rcases hp with ⟨rfl, rfl, f92⟩ | ⟨hg90, rfl, f9⟩
            · skip
              have V93 : VI c 2 12 (x_setc (x_setc (x_setc (x_setc h 0 0) (x_ce h + 1) (x_so h + 6)) 0 0) (x_ce (x_setc (x_setc h 0 0) (x_ce h + 1) (x_so h + 6)) + 1) (x_so (x_setc (x_setc h 0 0) (x_ce h + 1) (x_so h + 6)) + 6)) := VI.after (mc := 1) (ms := 6) V81 ⟨V81.1, V81.2.1⟩
              show x_seq _ _ _ _ ([.inr (.inr (7, 1)), .inl x1, .inl x2], [], (x_setc (x_setc (x_setc (x_setc h 0 0) (x_ce h + 1) (x_so h + 6)) 0 0) (x_ce (x_setc (x_setc h 0 0) (x_ce h + 1) (x_so h + 6)) + 1) (x_so (x_setc (x_setc h 0 0) (x_ce h + 1) (x_so h + 6)) + 6)))
              refine q_aload rfl (by decide) ?_
              refine q_gfr (V93.lv g0) ?_
              show x_seq _ _ _ _ ([.inr (.inr (7, 1)), .inl x1, .inl x2], [.inr (.inr (13, (x_vr h 7 2 1)))], (x_setc (x_setc (x_setc (x_setc h 0 0) (x_ce h + 1) (x_so h + 6)) 0 0) (x_ce (x_setc (x_setc h 0 0) (x_ce h + 1) (x_so h + 6)) + 1) (x_so (x_setc (x_setc h 0 0) (x_ce h + 1) (x_so h + 6)) + 6)))
              refine q_aload rfl (by decide) ?_
              refine q_gfi (V93.lv g0) ?_
              have e94 : 0 ≤ (x_vi h 7 4 1).toInt ∧ (x_vi h 7 4 1).toInt ≤ 16 := V93.rg (K := 7) (k := 4) (lo := 0) (hi := 16) (by decide) g0
              show x_seq _ _ _ _ ([.inr (.inr (7, 1)), .inl x1, .inl x2], [.inl (x_vi h 7 4 1), .inr (.inr (13, (x_vr h 7 2 1)))], (x_setc (x_setc (x_setc (x_setc h 0 0) (x_ce h + 1) (x_so h + 6)) 0 0) (x_ce (x_setc (x_setc h 0 0) (x_ce h + 1) (x_so h + 6)) + 1) (x_so (x_setc (x_setc h 0 0) (x_ce h + 1) (x_so h + 6)) + 6)))
              exact tk_tail3 (by omega) V93 (by decide) (by decide) g0 (show (x_vi h 7 4 1).toInt < 16 by omega) K (hv0 (by omega)) (fun o g hp => hZ _ _ (Or.inl ⟨hp.1, hp.2.1, by omega, by omega, hp.2.2⟩))
            · exact hZ _ _ (Or.inr (Or.inr ⟨hg90, rfl, by omega, by omega, K9⟩))
          · skip
            refine v_iconst (k := 1) rfl (fun v95 e96 => ?_)
            refine q_goto ?_
            refine xR.blk c47_41 ?_
            refine q_call (Nat.le_of_ble_eq_true rfl) (Nat.le_of_ble_eq_true rfl) (by rw [V81.2.2.1]; decide) (by rw [V81.2.2.2]; decide) ?_
            refine ((tx46 (x0 := v95) V81.set (fun _ _ hp => hp)).kp (v := v) (w := w) rfl K).mono (by omega) (fun o97 g98 hp => ?_)
            obtain ⟨hp, K9⟩ := hp
            rcases hp with ⟨rfl, rfl, f101⟩ | ⟨hg99, rfl, f9⟩
            · skip
              have V102 : VI c 2 12 (x_setc (x_setc (x_setc (x_setc h 0 0) (x_ce h + 1) (x_so h + 6)) 0 0) (x_ce (x_setc (x_setc h 0 0) (x_ce h + 1) (x_so h + 6)) + 1) (x_so (x_setc (x_setc h 0 0) (x_ce h + 1) (x_so h + 6)) + 6)) := VI.after (mc := 1) (ms := 6) V81 ⟨V81.1, V81.2.1⟩
              show x_seq _ _ _ _ ([.inr (.inr (7, 1)), .inl x1, .inl x2], [], (x_setc (x_setc (x_setc (x_setc h 0 0) (x_ce h + 1) (x_so h + 6)) 0 0) (x_ce (x_setc (x_setc h 0 0) (x_ce h + 1) (x_so h + 6)) + 1) (x_so (x_setc (x_setc h 0 0) (x_ce h + 1) (x_so h + 6)) + 6)))
              refine q_aload rfl (by decide) ?_
              refine q_gfr (V102.lv g0) ?_
              show x_seq _ _ _ _ ([.inr (.inr (7, 1)), .inl x1, .inl x2], [.inr (.inr (13, (x_vr h 7 2 1)))], (x_setc (x_setc (x_setc (x_setc h 0 0) (x_ce h + 1) (x_so h + 6)) 0 0) (x_ce (x_setc (x_setc h 0 0) (x_ce h + 1) (x_so h + 6)) + 1) (x_so (x_setc (x_setc h 0 0) (x_ce h + 1) (x_so h + 6)) + 6)))
              refine q_aload rfl (by decide) ?_
              refine q_gfi (V102.lv g0) ?_
              have e103 : 0 ≤ (x_vi h 7 4 1).toInt ∧ (x_vi h 7 4 1).toInt ≤ 16 := V102.rg (K := 7) (k := 4) (lo := 0) (hi := 16) (by decide) g0
              show x_seq _ _ _ _ ([.inr (.inr (7, 1)), .inl x1, .inl x2], [.inl (x_vi h 7 4 1), .inr (.inr (13, (x_vr h 7 2 1)))], (x_setc (x_setc (x_setc (x_setc h 0 0) (x_ce h + 1) (x_so h + 6)) 0 0) (x_ce (x_setc (x_setc h 0 0) (x_ce h + 1) (x_so h + 6)) + 1) (x_so (x_setc (x_setc h 0 0) (x_ce h + 1) (x_so h + 6)) + 6)))
              exact tk_tail3 (by omega) V102 (by decide) (by decide) g0 (show (x_vi h 7 4 1).toInt < 16 by omega) K (hv0 (by omega)) (fun o g hp => hZ _ _ (Or.inl ⟨hp.1, hp.2.1, by omega, by omega, hp.2.2⟩))
            · exact hZ _ _ (Or.inr (Or.inr ⟨hg99, rfl, by omega, by omega, K9⟩))
        · exact hZ _ _ (Or.inr (Or.inl ⟨hg78, rfl, by omega, K9⟩))
      · skip
        refine v_iconst (k := 1) rfl (fun v104 e105 => ?_)
        refine q_goto ?_
        refine xR.blk c47_24 ?_
        refine q_call (Nat.le_of_ble_eq_true rfl) (Nat.le_of_ble_eq_true rfl) (by rw [V.2.2.1]; decide) (by rw [V.2.2.2]; decide) ?_
        refine ((tw45 (x0 := v104) V.set (fun _ _ hp => hp)).kp (v := v) (w := w) rfl K).mono (by omega) (fun o106 g107 hp => ?_)
        obtain ⟨hp, K9⟩ := hp
        rcases hp with ⟨rfl, rfl, f110⟩ | ⟨hg108, rfl, f9⟩
        · skip
          have V111 : VI c 1 6 (x_setc (x_setc h 0 0) (x_ce h + 1) (x_so h + 6)) := VI.after (mc := 1) (ms := 6) V ⟨V.1, V.2.1⟩
          show x_seq _ _ _ _ ([.inr (.inr (7, 1)), .inl x1, .inl x2], [], (x_setc (x_setc h 0 0) (x_ce h + 1) (x_so h + 6)))
          refine q_aload rfl (by decide) ?_
          refine q_gfi (V111.lv g0) ?_
          have e112 : 0 ≤ (x_vi h 7 4 1).toInt ∧ (x_vi h 7 4 1).toInt ≤ 16 := V111.rg (K := 7) (k := 4) (lo := 0) (hi := 16) (by decide) g0
          show x_seq _ _ _ _ ([.inr (.inr (7, 1)), .inl x1, .inl x2], [.inl (x_vi h 7 4 1)], (x_setc (x_setc h 0 0) (x_ce h + 1) (x_so h + 6)))
          refine v_iconst (k := 16) rfl (fun v113 e114 => ?_)
          refine v_icmp_ge (fun d115 => ?_) (fun d115 => ?_)
          · skip
            refine xR.blk c47_40 ?_
            refine v_iconst (k := 0) rfl (fun v116 e117 => ?_)
            refine q_goto ?_
            refine xR.blk c47_41 ?_
            refine q_call (Nat.le_of_ble_eq_true rfl) (Nat.le_of_ble_eq_true rfl) (by rw [V111.2.2.1]; decide) (by rw [V111.2.2.2]; decide) ?_
            refine ((tx46 (x0 := v116) V111.set (fun _ _ hp => hp)).kp (v := v) (w := w) rfl K).mono (by omega) (fun o118 g119 hp => ?_)
            obtain ⟨hp, K9⟩ := hp
            rcases hp with ⟨rfl, rfl, f122⟩ | ⟨hg120, rfl, f9⟩
            · skip
              have V123 : VI c 2 12 (x_setc (x_setc (x_setc (x_setc h 0 0) (x_ce h + 1) (x_so h + 6)) 0 0) (x_ce (x_setc (x_setc h 0 0) (x_ce h + 1) (x_so h + 6)) + 1) (x_so (x_setc (x_setc h 0 0) (x_ce h + 1) (x_so h + 6)) + 6)) := VI.after (mc := 1) (ms := 6) V111 ⟨V111.1, V111.2.1⟩
              show x_seq _ _ _ _ ([.inr (.inr (7, 1)), .inl x1, .inl x2], [], (x_setc (x_setc (x_setc (x_setc h 0 0) (x_ce h + 1) (x_so h + 6)) 0 0) (x_ce (x_setc (x_setc h 0 0) (x_ce h + 1) (x_so h + 6)) + 1) (x_so (x_setc (x_setc h 0 0) (x_ce h + 1) (x_so h + 6)) + 6)))
              refine q_aload rfl (by decide) ?_
              refine q_gfr (V123.lv g0) ?_
              show x_seq _ _ _ _ ([.inr (.inr (7, 1)), .inl x1, .inl x2], [.inr (.inr (13, (x_vr h 7 2 1)))], (x_setc (x_setc (x_setc (x_setc h 0 0) (x_ce h + 1) (x_so h + 6)) 0 0) (x_ce (x_setc (x_setc h 0 0) (x_ce h + 1) (x_so h + 6)) + 1) (x_so (x_setc (x_setc h 0 0) (x_ce h + 1) (x_so h + 6)) + 6)))
              refine q_aload rfl (by decide) ?_
              refine q_gfi (V123.lv g0) ?_
              have e124 : 0 ≤ (x_vi h 7 4 1).toInt ∧ (x_vi h 7 4 1).toInt ≤ 16 := V123.rg (K := 7) (k := 4) (lo := 0) (hi := 16) (by decide) g0
              show x_seq _ _ _ _ ([.inr (.inr (7, 1)), .inl x1, .inl x2], [.inl (x_vi h 7 4 1), .inr (.inr (13, (x_vr h 7 2 1)))], (x_setc (x_setc (x_setc (x_setc h 0 0) (x_ce h + 1) (x_so h + 6)) 0 0) (x_ce (x_setc (x_setc h 0 0) (x_ce h + 1) (x_so h + 6)) + 1) (x_so (x_setc (x_setc h 0 0) (x_ce h + 1) (x_so h + 6)) + 6)))
              exact tk_tail3 (by omega) V123 (by decide) (by decide) g0 (show (x_vi h 7 4 1).toInt < 16 by omega) K (hv0 (by omega)) (fun o g hp => hZ _ _ (Or.inl ⟨hp.1, hp.2.1, by omega, by omega, hp.2.2⟩))
            · exact hZ _ _ (Or.inr (Or.inr ⟨hg120, rfl, by omega, by omega, K9⟩))
          · skip
            refine v_iconst (k := 1) rfl (fun v125 e126 => ?_)
            refine q_goto ?_
            refine xR.blk c47_41 ?_
            refine q_call (Nat.le_of_ble_eq_true rfl) (Nat.le_of_ble_eq_true rfl) (by rw [V111.2.2.1]; decide) (by rw [V111.2.2.2]; decide) ?_
            refine ((tx46 (x0 := v125) V111.set (fun _ _ hp => hp)).kp (v := v) (w := w) rfl K).mono (by omega) (fun o127 g128 hp => ?_)
            obtain ⟨hp, K9⟩ := hp
            rcases hp with ⟨rfl, rfl, f131⟩ | ⟨hg129, rfl, f9⟩
            · skip
              have V132 : VI c 2 12 (x_setc (x_setc (x_setc (x_setc h 0 0) (x_ce h + 1) (x_so h + 6)) 0 0) (x_ce (x_setc (x_setc h 0 0) (x_ce h + 1) (x_so h + 6)) + 1) (x_so (x_setc (x_setc h 0 0) (x_ce h + 1) (x_so h + 6)) + 6)) := VI.after (mc := 1) (ms := 6) V111 ⟨V111.1, V111.2.1⟩
              show x_seq _ _ _ _ ([.inr (.inr (7, 1)), .inl x1, .inl x2], [], (x_setc (x_setc (x_setc (x_setc h 0 0) (x_ce h + 1) (x_so h + 6)) 0 0) (x_ce (x_setc (x_setc h 0 0) (x_ce h + 1) (x_so h + 6)) + 1) (x_so (x_setc (x_setc h 0 0) (x_ce h + 1) (x_so h + 6)) + 6)))
              refine q_aload rfl (by decide) ?_
              refine q_gfr (V132.lv g0) ?_
              show x_seq _ _ _ _ ([.inr (.inr (7, 1)), .inl x1, .inl x2], [.inr (.inr (13, (x_vr h 7 2 1)))], (x_setc (x_setc (x_setc (x_setc h 0 0) (x_ce h + 1) (x_so h + 6)) 0 0) (x_ce (x_setc (x_setc h 0 0) (x_ce h + 1) (x_so h + 6)) + 1) (x_so (x_setc (x_setc h 0 0) (x_ce h + 1) (x_so h + 6)) + 6)))
              refine q_aload rfl (by decide) ?_
              refine q_gfi (V132.lv g0) ?_
              have e133 : 0 ≤ (x_vi h 7 4 1).toInt ∧ (x_vi h 7 4 1).toInt ≤ 16 := V132.rg (K := 7) (k := 4) (lo := 0) (hi := 16) (by decide) g0
              show x_seq _ _ _ _ ([.inr (.inr (7, 1)), .inl x1, .inl x2], [.inl (x_vi h 7 4 1), .inr (.inr (13, (x_vr h 7 2 1)))], (x_setc (x_setc (x_setc (x_setc h 0 0) (x_ce h + 1) (x_so h + 6)) 0 0) (x_ce (x_setc (x_setc h 0 0) (x_ce h + 1) (x_so h + 6)) + 1) (x_so (x_setc (x_setc h 0 0) (x_ce h + 1) (x_so h + 6)) + 6)))
              exact tk_tail3 (by omega) V132 (by decide) (by decide) g0 (show (x_vi h 7 4 1).toInt < 16 by omega) K (hv0 (by omega)) (fun o g hp => hZ _ _ (Or.inl ⟨hp.1, hp.2.1, by omega, by omega, hp.2.2⟩))
            · exact hZ _ _ (Or.inr (Or.inr ⟨hg129, rfl, by omega, by omega, K9⟩))
        · exact hZ _ _ (Or.inr (Or.inl ⟨hg108, rfl, by omega, K9⟩))
theorem tx94 {h : xH} {Z : xO → xH → Prop} {F : xF} {x1 : Int32} {x2 : Int32} (S : MS h) (M : MX 72 F) (hZ : ∀ (o : xO) (F' : xF), (MX 72 F') ∧ (∃ v : Int32, o = .inl (some (.inl v)) ∧ (∀ t, F' 42 t = F 42 t) ∧ ((((0 ≤ x1.toInt ∧ x1.toInt ≤ 2) ∧ (0 ≤ x2.toInt ∧ x2.toInt ≤ 2) ∧ x1.toInt ≠ x2.toInt) ∧ (F 8 20).toInt ≤ 15 ∧ (F' 8 0).toInt = 0 ∧ (F' 8 20).toInt = (F 8 20).toInt + 1) ∨ (¬ ((0 ≤ x1.toInt ∧ x1.toInt ≤ 2) ∧ (0 ≤ x2.toInt ∧ x2.toInt ≤ 2) ∧ x1.toInt ≠ x2.toInt) ∧ (F' 8 0).toInt = 1 ∧ (F' 8 20).toInt = (F 8 20).toInt) ∨ (((0 ≤ x1.toInt ∧ x1.toInt ≤ 2) ∧ (0 ≤ x2.toInt ∧ x2.toInt ≤ 2) ∧ x1.toInt ≠ x2.toInt) ∧ ¬ (F 8 20).toInt ≤ 15 ∧ (F' 8 0).toInt = 2 ∧ (F' 8 20).toInt = (F 8 20).toInt))) → Z o (mh h F')) : xC 100 94 [.inr (.inr (8, 1)), .inl x1, .inl x2] (mh h F) Z := by
  refine ⟨rfl, S.2.2.1, S.2.2.2, ?_⟩
  show xR _ 94 0 ([.inr (.inr (8, 1)), .inl x1, .inl x2], [], mh h F) Z
  have jn1 : ∀ (sjn1_0 : Int32), (0 ≤ sjn1_0.toInt ∧ sjn1_0.toInt ≤ 2) → ((((0 ≤ x1.toInt ∧ x1.toInt ≤ 2) ∧ (0 ≤ x2.toInt ∧ x2.toInt ≤ 2) ∧ x1.toInt ≠ x2.toInt) ∧ (F 8 20).toInt ≤ 15 ∧ sjn1_0.toInt = 0) ∨ (¬ ((0 ≤ x1.toInt ∧ x1.toInt ≤ 2) ∧ (0 ≤ x2.toInt ∧ x2.toInt ≤ 2) ∧ x1.toInt ≠ x2.toInt) ∧ sjn1_0.toInt = 1) ∨ (((0 ≤ x1.toInt ∧ x1.toInt ≤ 2) ∧ (0 ≤ x2.toInt ∧ x2.toInt ≤ 2) ∧ x1.toInt ≠ x2.toInt) ∧ ¬ (F 8 20).toInt ≤ 15 ∧ sjn1_0.toInt = 2)) → xR (90) 94 42 ([.inr (.inr (8, 1)), .inl x1, .inl x2], [.inl sjn1_0, .inr (.inr (8, 1))], mh h F) Z := by
    intro sjn1_0 kjn1_0 kjn1_1
    refine xR.blk c94_42 ?_
    refine q_callv (j := 1) rfl (by decide) ⟨Nat.le_refl 1, Nat.le_of_eq S.1.symm⟩ (Nat.le_of_ble_eq_true rfl) (Nat.le_of_ble_eq_true rfl) (by show x_ce h + 0 ≤ 0; rw [S.2.2.1]; exact Nat.le_refl 0) (by show x_so h + 0 ≤ 0; rw [S.2.2.2]; exact Nat.le_refl 0) ?_
    refine xC.up (tv91 (h := x_setc h 0 0) (F := F) (x1 := sjn1_0) S.set  (fun o4 F5 hp => ?_)) (by omega)
    obtain ⟨q8, ⟨v7, rfl, q6⟩⟩ := hp
    subst q8
    show x_seq _ _ _ _ ([.inr (.inr (8, 1)), .inl x1, .inl x2], [.inl v7], mh h (x_u2 F 8 0 sjn1_0))
    refine v_if_eq (fun d9 => ?_) (fun d9 => ?_)
    · skip
      refine xR.blk c94_50 ?_
      refine q_aload rfl (by decide) ?_
      refine m_gfr S (n := 16) (by decide) ?_
      refine q_aload rfl (by decide) ?_
      refine m_gfi S ?_
      have e10 : 0 ≤ (F 8 20).toInt ∧ (F 8 20).toInt ≤ 16 := M.fl (lo := 0) (hi := 16) (by decide)
      show x_seq _ _ _ _ ([.inr (.inr (8, 1)), .inl x1, .inl x2], [.inl (F 8 20), .inr (.inr (39, 1))], mh h (x_u2 F 8 0 sjn1_0))
      refine q_iload rfl ?_
      refine m_ast (k := 21) (n := 16) S (by decide) (by omega) (by omega) ?_
      show x_seq _ _ _ _ ([.inr (.inr (8, 1)), .inl x1, .inl x2], [], mh h (x_u2 (x_u2 F 8 0 sjn1_0) 39 (F 8 20).toNatClampNeg x1))
      refine q_aload rfl (by decide) ?_
      refine m_gfr S (n := 16) (by decide) ?_
      refine q_aload rfl (by decide) ?_
      refine m_gfi S ?_
      have e11 : 0 ≤ (F 8 20).toInt ∧ (F 8 20).toInt ≤ 16 := M.fl (lo := 0) (hi := 16) (by decide)
      show x_seq _ _ _ _ ([.inr (.inr (8, 1)), .inl x1, .inl x2], [.inl (F 8 20), .inr (.inr (40, 1))], mh h (x_u2 (x_u2 F 8 0 sjn1_0) 39 (F 8 20).toNatClampNeg x1))
      refine q_iload rfl ?_
      refine m_ast (k := 22) (n := 16) S (by decide) (by omega) (by omega) ?_
      show x_seq _ _ _ _ ([.inr (.inr (8, 1)), .inl x1, .inl x2], [], mh h (x_u2 (x_u2 (x_u2 F 8 0 sjn1_0) 39 (F 8 20).toNatClampNeg x1) 40 (F 8 20).toNatClampNeg x2))
      refine q_aload rfl (by decide) ?_
      refine q_dup rfl ?_
      refine m_gfi S ?_
      have e12 : 0 ≤ (F 8 20).toInt ∧ (F 8 20).toInt ≤ 16 := M.fl (lo := 0) (hi := 16) (by decide)
      show x_seq _ _ _ _ ([.inr (.inr (8, 1)), .inl x1, .inl x2], [.inl (F 8 20), .inr (.inr (8, 1))], mh h (x_u2 (x_u2 (x_u2 F 8 0 sjn1_0) 39 (F 8 20).toNatClampNeg x1) 40 (F 8 20).toNatClampNeg x2))
      refine v_iconst (k := 1) rfl (fun v13 e14 => ?_)
      refine v_iadd (by omega) (fun v15 e16 => ?_)
      refine m_pfi S ?_
      show x_seq _ _ _ _ ([.inr (.inr (8, 1)), .inl x1, .inl x2], [], mh h (x_u2 (x_u2 (x_u2 (x_u2 F 8 0 sjn1_0) 39 (F 8 20).toNatClampNeg x1) 40 (F 8 20).toNatClampNeg x2) 8 20 v15))
      refine q_aload rfl (by decide) ?_
      refine m_gfi S ?_
      show x_seq _ _ _ _ ([.inr (.inr (8, 1)), .inl x1, .inl x2], [.inl v15], mh h (x_u2 (x_u2 (x_u2 (x_u2 F 8 0 sjn1_0) 39 (F 8 20).toNatClampNeg x1) 40 (F 8 20).toNatClampNeg x2) 8 20 v15))
      refine v_iconst (k := 1) rfl (fun v17 e18 => ?_)
      refine v_isub (by omega) (fun v19 e20 => ?_)
      exact q_iret (hZ _ _ ⟨(MX.putf (k := 20) (v := v15) (MX.put (K := 40) (i := (F 8 20).toNatClampNeg) (v := x2) (MX.put (K := 39) (i := (F 8 20).toNatClampNeg) (v := x1) (MX.putf (k := 0) (v := sjn1_0) M (fun lo hi hm => by simp only [mfl, List.mem_cons, Prod.mk.injEq, List.not_mem_nil, or_false] at hm; omega)) (fun lo hi hm => by simp only [mrl, List.mem_cons, Prod.mk.injEq, List.not_mem_nil, or_false] at hm; omega) (by decide) (fun z => absurd z (by decide)) (Or.inl rfl)) (fun lo hi hm => by simp only [mrl, List.mem_cons, Prod.mk.injEq, List.not_mem_nil, or_false] at hm; omega) (by decide) (fun z => absurd z (by decide)) (Or.inl rfl)) (fun lo hi hm => by simp only [mfl, List.mem_cons, Prod.mk.injEq, List.not_mem_nil, or_false] at hm; omega)), ⟨_, rfl, fun _ => rfl, (show ((((0 ≤ x1.toInt ∧ x1.toInt ≤ 2) ∧ (0 ≤ x2.toInt ∧ x2.toInt ≤ 2) ∧ x1.toInt ≠ x2.toInt) ∧ (F 8 20).toInt ≤ 15 ∧ sjn1_0.toInt = 0 ∧ v15.toInt = (F 8 20).toInt + 1) ∨ (¬ ((0 ≤ x1.toInt ∧ x1.toInt ≤ 2) ∧ (0 ≤ x2.toInt ∧ x2.toInt ≤ 2) ∧ x1.toInt ≠ x2.toInt) ∧ sjn1_0.toInt = 1 ∧ v15.toInt = (F 8 20).toInt) ∨ (((0 ≤ x1.toInt ∧ x1.toInt ≤ 2) ∧ (0 ≤ x2.toInt ∧ x2.toInt ≤ 2) ∧ x1.toInt ≠ x2.toInt) ∧ ¬ (F 8 20).toInt ≤ 15 ∧ sjn1_0.toInt = 2 ∧ v15.toInt = (F 8 20).toInt)) by omega)⟩⟩)
    · skip
      refine v_iconst (k := 0) rfl (fun v21 e22 => ?_)
      exact q_iret (hZ _ _ ⟨(MX.putf (k := 0) (v := sjn1_0) M (fun lo hi hm => by simp only [mfl, List.mem_cons, Prod.mk.injEq, List.not_mem_nil, or_false] at hm; omega)), ⟨_, rfl, fun _ => rfl, (show ((((0 ≤ x1.toInt ∧ x1.toInt ≤ 2) ∧ (0 ≤ x2.toInt ∧ x2.toInt ≤ 2) ∧ x1.toInt ≠ x2.toInt) ∧ (F 8 20).toInt ≤ 15 ∧ sjn1_0.toInt = 0 ∧ (F 8 20).toInt = (F 8 20).toInt + 1) ∨ (¬ ((0 ≤ x1.toInt ∧ x1.toInt ≤ 2) ∧ (0 ≤ x2.toInt ∧ x2.toInt ≤ 2) ∧ x1.toInt ≠ x2.toInt) ∧ sjn1_0.toInt = 1 ∧ (F 8 20).toInt = (F 8 20).toInt) ∨ (((0 ≤ x1.toInt ∧ x1.toInt ≤ 2) ∧ (0 ≤ x2.toInt ∧ x2.toInt ≤ 2) ∧ x1.toInt ≠ x2.toInt) ∧ ¬ (F 8 20).toInt ≤ 15 ∧ sjn1_0.toInt = 2 ∧ (F 8 20).toInt = (F 8 20).toInt)) by omega)⟩⟩)
  refine xR.blk c94_0 ?_
  refine q_aload rfl (by decide) ?_
  refine q_iload rfl ?_
  refine v_iconst (k := 0) rfl (fun v23 e24 => ?_)
  refine v_iconst (k := 2) rfl (fun v25 e26 => ?_)
  refine q_call (Nat.le_of_ble_eq_true rfl) (Nat.le_of_ble_eq_true rfl) (by show x_ce h + 0 ≤ 0; rw [S.2.2.1]; exact Nat.le_refl 0) (by show x_so h + 0 ≤ 0; rw [S.2.2.2]; exact Nat.le_refl 0) ?_
  refine xC.up (tv92 (h := x_setc h 0 0) (F := F) (x0 := x1) (x1 := v23) (x2 := v25) S.set  (fun o27 F28 hp => ?_)) (by omega)
  obtain ⟨hF31, ⟨v30, rfl, q29⟩⟩ := hp
  rw [hF31]
  show x_seq _ _ _ _ ([.inr (.inr (8, 1)), .inl x1, .inl x2], [.inl v30, .inr (.inr (8, 1))], mh h F)
  refine v_if_eq (fun d32 => ?_) (fun d32 => ?_)
  · skip
    refine xR.blk c94_24 ?_
    refine v_iconst (k := 1) rfl (fun v33 e34 => ?_)
    refine q_goto ?_
    exact (jn1 v33 (by omega) (by omega)).up (by omega)
  · skip
    refine q_iload rfl ?_
    refine v_iconst (k := 0) rfl (fun v35 e36 => ?_)
    refine v_iconst (k := 2) rfl (fun v37 e38 => ?_)
    refine q_call (Nat.le_of_ble_eq_true rfl) (Nat.le_of_ble_eq_true rfl) (by show x_ce h + 0 ≤ 0; rw [S.2.2.1]; exact Nat.le_refl 0) (by show x_so h + 0 ≤ 0; rw [S.2.2.2]; exact Nat.le_refl 0) ?_
    refine xC.up (tv92 (h := x_setc h 0 0) (F := F) (x0 := x2) (x1 := v35) (x2 := v37) S.set  (fun o39 F40 hp => ?_)) (by omega)
    obtain ⟨hF43, ⟨v42, rfl, q41⟩⟩ := hp
    rw [hF43]
    show x_seq _ _ _ _ ([.inr (.inr (8, 1)), .inl x1, .inl x2], [.inl v42, .inr (.inr (8, 1))], mh h F)
    refine v_if_eq (fun d44 => ?_) (fun d44 => ?_)
    · skip
      refine xR.blk c94_24 ?_
      refine v_iconst (k := 1) rfl (fun v45 e46 => ?_)
      refine q_goto ?_
      exact (jn1 v45 (by omega) (by omega)).up (by omega)
    · skip
      refine q_iload rfl ?_
      refine q_iload rfl ?_
      refine v_icmp_ne (fun d47 => ?_) (fun d47 => ?_)
      · skip
        refine xR.blk c94_28 ?_
        refine q_aload rfl (by decide) ?_
        refine m_gfi S ?_
        have e48 : 0 ≤ (F 8 20).toInt ∧ (F 8 20).toInt ≤ 16 := M.fl (lo := 0) (hi := 16) (by decide)
        refine v_iconst (k := 16) rfl (fun v49 e50 => ?_)
        refine v_icmp_ne (fun d51 => ?_) (fun d51 => ?_)
        · skip
          refine xR.blk c94_41 ?_
          refine v_iconst (k := 0) rfl (fun v52 e53 => ?_)
          refine q_goto ?_
          exact (jn1 v52 (by omega) (by omega)).up (by omega)
        · skip
          refine v_iconst (k := 2) rfl (fun v54 e55 => ?_)
          refine q_goto ?_
          exact (jn1 v54 (by omega) (by omega)).up (by omega)
      · skip
        refine q_goto ?_
        refine xR.blk c94_24 ?_
        refine v_iconst (k := 1) rfl (fun v56 e57 => ?_)
        refine q_goto ?_
        exact (jn1 v56 (by omega) (by omega)).up (by omega)
