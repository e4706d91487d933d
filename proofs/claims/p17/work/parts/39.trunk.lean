/-! TRUNK, ADDROUTE, ROUTE -/
theorem tv40 {h : xH} {Z : xO → xH → Prop} {x0 : Nat} {x1 x2 : Int32} (hC : CI h) (hc : x_ce h = 0) (hs : x_so h = 0) (g0 : x_live h 6 x0) (hZ : ∀ (o : xO) (g : xH), (CI g ∧ x_pj g = x_pj h ∧ x_vi g 7 = x_vi h 7 ∧ x_vr g = x_vr h) ∧ (o = .inl none) → Z o g) : xC 10 40 [.inr (.inr (6, x0)), .inl x1, .inl x2] h Z := by
  refine ⟨rfl, hc, hs, xR.blk c40_0 ?_⟩
  refine q_aload rfl (by decide) (q_objinit (by decide) g0.1 (Nat.le_of_ble_eq_true rfl) (q_aload rfl (by decide) (q_iload rfl (q_pfi g0 (q_aload rfl (by decide) (q_iload rfl (q_pfi g0 (q_ret (hZ _ _ ⟨⟨?_, ?_, ?_, rfl⟩, rfl⟩)))))))))
  · refine (hC.puti (fun lo hi hm => by simp [x_rgl] at hm) (by omega) (by omega) (by omega)).puti (fun lo hi hm => by simp [x_rgl] at hm) (by omega) (by omega) (by omega)
  · exact (x_pj_puti rfl).trans (x_pj_puti rfl)
  · funext a b
    rw [x_vi_puti, if_neg (by omega), x_vi_puti, if_neg (by omega)]
theorem tk_tail {c : xP} {a b n : Nat} {h : xH} {Z : xO → xH → Prop} {J : Nat → xS → Prop} {x0 : Nat} {x1 x2 : Int32} (hn : 10 ≤ n) (V : VI c a b h) (ha : a + 1 ≤ 3) (hb : b + 4 ≤ 16) (g0 : L c 7 x0) (htc : (x_vi h 7 4 x0).toInt < 16) (hZ : ∀ (o : xO) (g : xH), (CI g ∧ x_mq g = x_mq h) ∧ (∃ v : Int32, o = .inl (some (.inl v))) → Z o g) :
    x_seq [(55, x_newo 6 4 3 16), (56, x_dup), (57, x_iload 1), (58, x_iload 2), (61, x_calli 40 3 0 0 3 16), (62, x_aast 13 6), (63, x_aload 0), (64, x_dup), (67, x_gfi 7 4), (68, x_iconst 1), (69, x_bin (fun x y => x + y)), (72, x_pfi 7 4), (73, x_aload 0), (76, x_gfi 7 4), (77, x_iconst 1), (78, x_bin (fun x y => x - y)), (79, x_iret)] (xC n) Z J
      ([.inr (.inr (7, x0)), .inl x1, .inl x2], [.inl (x_vi h 7 4 x0), .inr (.inr (13, x_vr h 7 2 x0))], h) := by
  have hrg := V.rg (K := 7) (k := 4) (lo := 0) (hi := 16) (by decide) g0
  have h13 := V.nn (K := 7) (k := 2) (by decide) g0
  have hC1 := V.1.new6
  have l7 : ∀ {K j : Nat}, x_live h K j → x_live (x_new h 6 4) K j := fun q => x_new_lv.mpr (Or.inl q)
  have lt : x_live (x_new h 6 4) 6 (x_cn h 6 + 1) := x_new_lv.mpr (Or.inr ⟨rfl, rfl⟩)
  refine q_newo (by rw [V.2.2.1]; omega) (by rw [V.2.2.2]; omega) (q_dup rfl (q_iload rfl (q_iload rfl (q_calli rfl (by decide) (by omega) (by decide) (Nat.le_of_ble_eq_true rfl) (Nat.le_of_ble_eq_true rfl) (by show x_ce h + 1 + 0 ≤ 3; rw [V.2.2.1]; omega) (by show x_so h + 4 + 0 ≤ 16; rw [V.2.2.2]; omega) ?_))))
  refine xC.up (tv40 (x0 := x_cn h 6 + 1) (x1 := x1) (x2 := x2) (h := x_setc (x_new h 6 4) 0 0) hC1 rfl rfl lt (fun o g hp => ?_)) hn
  obtain ⟨⟨hCg, hpj, hvi, hvr⟩, rfl⟩ := hp
  generalize hh2 : x_setc g (x_ce (x_new h 6 4) + 0) (x_so (x_new h 6 4) + 0) = h2
  have hC2 : CI h2 := by rw [← hh2]; exact hCg
  have hcn : x_cn h2 = x_cn (x_new h 6 4) := by rw [← hh2]; exact congrArg (fun p : xP => p.1) hpj
  have hvi2 : x_vi h2 7 = x_vi h 7 := by
    rw [← hh2]
    refine Eq.trans hvi ?_
    funext k j
    show (if 7 = 6 ∧ j = h.1 6 + 1 then 0 else x_vi h 7 k j) = _
    rw [if_neg (by omega)]
  have hvr2 : ∀ K k j, K ≠ 6 → x_vr h2 K k j = x_vr h K k j := by
    intro K k j hK
    rw [← hh2]
    show x_vr g K k j = _
    rw [hvr]
    exact if_neg (fun z => hK z.1)
  have hmq2 : x_mq h2 = x_mq h := by
    rw [← hh2]
    show x_mq g = _
    rw [x_mq_of hpj]
    exact x_mq_new (N := 4) rfl
  have lv2 : ∀ {K j : Nat}, x_live (x_new h 6 4) K j → x_live h2 K j := fun q => ⟨q.1, by rw [hcn]; exact q.2⟩
  have l13 : x_live h2 13 (x_vr h 7 2 x0) := lv2 (l7 (V.lv h13))
  have l72 : x_live h2 7 x0 := lv2 (l7 (V.lv g0))
  have hln : x_ln h2 13 (x_vr h 7 2 x0) = 16 := hC2.2.2.2.1 13 16 _ (by decide) l13
  have hcl := x_clamp (n := x_vi h 7 4 x0) hrg.1
  show x_seq ((62, x_aast 13 6) :: _) _ _ _ ([.inr (.inr (7, x0)), .inl x1, .inl x2], [.inr (.inr (6, x_cn h 6 + 1)), .inl (x_vi h 7 4 x0), .inr (.inr (13, x_vr h 7 2 x0))], h2)
  refine q_aast l13 ⟨hrg.1, by rw [hln]; omega⟩ ?_
  have hC3 := hC2.put13 (j := x_vr h 7 2 x0) (i := (x_vi h 7 4 x0).toNatClampNeg) (lv2 lt)
  refine q_aload rfl (by decide) (q_dup rfl (q_gfi l72 (q_iconst (q_bin (q_pfi l72 ?_)))))
  have e7 : x_vi (x_putr h2 13 (x_vr h 7 2 x0) (x_vi h 7 4 x0).toNatClampNeg (x_cn h 6 + 1)) 7 4 x0 = x_vi h 7 4 x0 := congrFun (congrFun hvi2 4) x0
  have e1 : (1 : Int32).toInt = 1 := rfl
  have eA : (x_vi h 7 4 x0 + 1).toInt = (x_vi h 7 4 x0).toInt + 1 := by rw [i32_add (by rw [e1]; omega) (by rw [e1]; omega), e1]
  refine q_aload rfl (by decide) (q_gfi l72 (q_iconst (q_bin (q_iret (hZ _ _ ⟨⟨?_, ?_⟩, _, rfl⟩)))))
  · refine CI.put74 hC3 (by rw [e7, eA]; omega) (fun i hi => ?_)
    rw [e7, eA] at hi
    have e8 : x_vr (x_putr h2 13 (x_vr h 7 2 x0) (x_vi h 7 4 x0).toNatClampNeg (x_cn h 6 + 1)) 7 2 x0 = x_vr h 7 2 x0 := by
      rw [x_vr_putr, if_neg (by omega)]; exact hvr2 7 2 x0 (by omega)
    rw [e8, x_vr_putr]
    by_cases q : 13 = 13 ∧ x_vr h 7 2 x0 = x_vr h 7 2 x0 ∧ i = (x_vi h 7 4 x0).toNatClampNeg
    · rw [if_pos q]; exact lv2 lt
    · rw [if_neg q, hvr2 13 _ i (by omega)]
      have hlt : (i : Int) < (x_vi h 7 4 x0).toInt := by
        have : i ≠ (x_vi h 7 4 x0).toNatClampNeg := fun z => q ⟨rfl, rfl, z⟩
        omega
      exact lv2 (l7 (V.1.2.2.2.2.2.2.2.1 x0 i (V.lv g0) hlt))
  · rw [x_mq_puti rfl, x_mq_putr rfl, hmq2]
theorem tv20 {c : xP} {h : xH} {Z : xO → xH → Prop} {x0 x1 : Nat} (V : VI c 0 0 h) (g0 : L c 3 x0) (g1 : L c 4 x1) (hZ : ∀ (o : xO) (g : xH), (CI g ∧ x_pj g = c) ∧ (o = .inl none) → Z o g) : xC 10 20 [.inr (.inr (3, x0)), .inr (.inr (4, x1))] h Z := by
  have hrg := V.rg (K := 3) (k := 7) (lo := 0) (hi := 12) (by decide) g0
  have h18 := V.nn (K := 3) (k := 3) (by decide) g0
  have hln : x_ln h 18 (x_vr h 3 3 x0) = 12 := V.ln (by decide) h18
  have hcl := x_clamp (n := x_vi h 3 7 x0) hrg.1
  have e12 : (12 : Int32).toInt = 12 := rfl
  refine ⟨rfl, V.2.2.1, V.2.2.2, xR.blk c20_0 ?_⟩
  refine q_aload rfl (by decide) (q_gfi (V.lv g0) (q_iconst (v_icmp_ge (fun d => ?_) (fun d => ?_))))
  · exact xR.blk c20_29 (q_ret (hZ _ _ ⟨⟨V.1, V.2.1⟩, rfl⟩))
  · rw [e12] at d
    refine q_aload rfl (by decide) (q_gfr (V.lv g0) (q_aload rfl (by decide) (q_gfi (V.lv g0) (q_aload rfl (by decide) (q_aast (V.lv h18) ⟨hrg.1, by rw [hln]; omega⟩ ?_)))))
    have hC3 := V.1.put18 (j := x_vr h 3 3 x0) (i := (x_vi h 3 7 x0).toNatClampNeg) (V.lv g1)
    have e1 : (1 : Int32).toInt = 1 := rfl
    have eA : (x_vi h 3 7 x0 + 1).toInt = (x_vi h 3 7 x0).toInt + 1 := by rw [i32_add (by rw [e1]; omega) (by rw [e1]; omega), e1]
    refine q_aload rfl (by decide) (q_dup rfl (q_gfi (V.lv g0) (q_iconst (q_bin (q_pfi (V.lv g0) (q_goto (xR.blk c20_29 (q_ret (hZ _ _ ⟨⟨?_, ?_⟩, rfl⟩)))))))))
    · refine CI.put37 hC3 (by show 0 ≤ (x_vi h 3 7 x0 + 1).toInt ∧ (x_vi h 3 7 x0 + 1).toInt ≤ 12; rw [eA]; omega) (fun i hi => ?_)
      have hi : (i : Int) < (x_vi h 3 7 x0 + 1).toInt := hi
      rw [eA] at hi
      rw [x_vr_putr (K' := 3), if_neg (by omega), x_vr_putr]
      by_cases q : 18 = 18 ∧ x_vr h 3 3 x0 = x_vr h 3 3 x0 ∧ i = (x_vi h 3 7 x0).toNatClampNeg
      · rw [if_pos q]; exact V.lv g1
      · rw [if_neg q]
        have : i ≠ (x_vi h 3 7 x0).toNatClampNeg := fun z => q ⟨rfl, rfl, z⟩
        exact V.1.2.2.2.2.2.2.2.2.1 x0 i (V.lv g0) (by omega)
    · exact (x_pj_puti rfl).trans ((x_pj_putr rfl).trans V.2.1)
