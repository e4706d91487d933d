/-! THE LAW'S START -/
theorem nnl_ck : ∀ a ∈ x_nnl, ck a.1 ∧ ck (x_ft a.1 a.2) := by unfold ck; decide +kernel
theorem nul_ck : ∀ a ∈ x_nul, ck a.1 ∧ ck (x_ft a.1 a.2) := by unfold ck; decide +kernel
theorem rgl_ck : ∀ a ∈ x_rgl, ck a.1 := by unfold ck; decide +kernel
theorem lnl_ck : ∀ a ∈ x_lnl, ck a.1 := by unfold ck; decide +kernel
theorem ael_ck : ∀ a ∈ x_ael, ck a.1 ∧ ck (x_et a.1) := by unfold ck; decide +kernel
theorem cnl_ck : ∀ a ∈ x_cnl, ck a.1 := by unfold ck; decide +kernel
theorem ck_of {K : Nat} (h : K ≤ 20 ∧ K ≠ 8 ∧ K ≠ 10) : ck K := h
theorem CI.congr {h g : xH} (hC : CI h) (e : ∀ K, ck K → x_cn g K = x_cn h K ∧ x_ln g K = x_ln h K ∧ x_vi g K = x_vi h K ∧ x_vr g K = x_vr h K) : CI g := by
  obtain ⟨a1, a2, a3, a4, a5, a6, a7, a8, a9, a10⟩ := hC
  have lv : ∀ K j, ck K → (x_live g K j ↔ x_live h K j) := fun K j hk => by unfold x_live; rw [(e K hk).1]
  have vr : ∀ K, ck K → x_vr g K = x_vr h K := fun K hk => (e K hk).2.2.2
  have vi : ∀ K, ck K → x_vi g K = x_vi h K := fun K hk => (e K hk).2.2.1
  have ln : ∀ K, ck K → x_ln g K = x_ln h K := fun K hk => (e K hk).2.1
  have cn : ∀ K, ck K → x_cn g K = x_cn h K := fun K hk => (e K hk).1
  refine ⟨fun K k j hm hj => ?_, fun K k j hm hj => ?_, fun K k lo hi j hm hj => ?_, fun K L j hm hj => ?_, fun K L j i hm hj hi => ?_, fun K j i hm hj => ?_, fun K n hm => ?_, fun j i hj hi => ?_, fun j i hj hi => ?_, fun j hj => ?_⟩
  · have q := nnl_ck _ hm
    rw [lv _ _ q.2, vr K q.1]
    exact a1 K k j hm ((lv K j q.1).mp hj)
  · have q := nul_ck _ hm
    rw [cn _ q.2, vr K q.1]
    exact a2 K k j hm ((lv K j q.1).mp hj)
  · have q : ck K := rgl_ck _ hm
    rw [vi K q]
    exact a3 K k lo hi j hm ((lv K j q).mp hj)
  · have q : ck K := lnl_ck _ hm
    rw [ln K q]
    exact a4 K L j hm ((lv K j q).mp hj)
  · have q := ael_ck _ hm
    rw [lv _ _ q.2, vr K q.1]
    exact a5 K L j i hm ((lv K j q.1).mp hj) hi
  · have q : ck K ∧ ck (x_et K) := by rcases hm with rfl | rfl | rfl <;> exact ⟨ck_of (by decide), ck_of (by decide)⟩
    rw [cn _ q.2, vr K q.1]
    exact a6 K j i hm ((lv K j q.1).mp hj)
  · have q : ck K := cnl_ck _ hm
    rw [cn K q]
    exact a7 K n hm
  · have q7 : ck 7 := ck_of (by decide)
    rw [lv 6 _ (ck_of (by decide)), vr 13 (ck_of (by decide)), vr 7 q7]
    rw [vi 7 q7] at hi
    exact a8 j i ((lv 7 j q7).mp hj) hi
  · have q3 : ck 3 := ck_of (by decide)
    rw [lv 4 _ (ck_of (by decide)), vr 18 (ck_of (by decide)), vr 3 q3]
    rw [vi 3 q3] at hi
    exact a9 j i ((lv 3 j q3).mp hj) hi
  · have q5 : ck 5 := ck_of (by decide)
    rw [vi 5 q5, vr 5 q5, ln 20 (ck_of (by decide))]
    exact a10 j ((lv 5 j q5).mp hj)
/-- a new object or array of another kind leaves a kind as it was -/
theorem x_new_at {h : xH} {K N K' : Nat} (hn : K' ≠ K) : x_cn (x_new h K N) K' = x_cn h K' ∧ x_ln (x_new h K N) K' = x_ln h K' ∧ x_vi (x_new h K N) K' = x_vi h K' ∧ x_vr (x_new h K N) K' = x_vr h K' := by
  refine ⟨by rw [x_new_cn, if_neg hn], rfl, ?_, ?_⟩
  · funext a b; exact if_neg (fun z => hn z.1)
  · funext a b; exact if_neg (fun z => hn z.1)
theorem x_newa_at {h : xH} {K n K' : Nat} (hn : K' ≠ K) : x_cn (x_newa h K n) K' = x_cn h K' ∧ x_ln (x_newa h K n) K' = x_ln h K' ∧ x_vi (x_newa h K n) K' = x_vi h K' ∧ x_vr (x_newa h K n) K' = x_vr h K' := by
  refine ⟨by rw [x_newa_cn, if_neg hn], ?_, ?_, ?_⟩
  · funext a; exact if_neg (fun z => hn z.1)
  · funext a b; exact if_neg (fun z => hn z.1)
  · funext a b; exact if_neg (fun z => hn z.1)
/-- the first heap of the law's loop -/
theorem LI.first {Ls : Nat × (Nat → Int32)} {g g2 : xH} {F : xF} {a b a' b' : Nat} (hC : CI g) (P : PM 65 (x_setc (x_new (x_setc g a b) 8 49) 0 0) g2) (z : ZG (bz 72 36 15 9 16) F) (h21 : x_cn g2 21 = 0) (hs : (x_ln g 10 1, x_vi g 10 1) = Ls) (hni : NS 3 72 g) (hct : ∀ K, ck K → x_cn g K = ct_c K 3 72) : LI Ls (x_newa (x_setc (mh g2 F) a' b') 21 1) F ∧ kP (v0 g, 0) (v0 g, 0) (x_newa (x_setc (mh g2 F) a' b') 21 1) := by
  have p1 := P.1
  have st : ∀ K, K ≠ 8 → K ≠ 21 → ¬ (22 ≤ K ∧ K ≤ 64) → x_cn (x_newa (x_setc (mh g2 F) a' b') 21 1) K = x_cn g K ∧ x_ln (x_newa (x_setc (mh g2 F) a' b') 21 1) K = x_ln g K ∧ x_vi (x_newa (x_setc (mh g2 F) a' b') 21 1) K = x_vi g K ∧ x_vr (x_newa (x_setc (mh g2 F) a' b') 21 1) K = x_vr g K := by
    intro K h8 h21' hK
    have q1 := x_newa_at (h := x_setc (mh g2 F) a' b') (n := 1) h21'
    have q2 := p1 K h8 hK
    have q3 := x_new_at (h := x_setc g a b) (N := 49) h8
    exact ⟨q1.1.trans (q2.1.trans q3.1), q1.2.1.trans (q2.2.1.trans q3.2.1), q1.2.2.1.trans ((mh_vi h8 hK).trans (q2.2.2.1.trans q3.2.2.1)), q1.2.2.2.trans (q2.2.2.2.trans q3.2.2.2)⟩
  have s10 := st 10 (by decide) (by decide) (by decide)
  have I : LI Ls (x_newa (x_setc (mh g2 F) a' b') 21 1) F := by
    refine ⟨hC.congr (fun K hk => st K hk.2.1 (by have := hk.1; omega) (by have := hk.1; omega)), ⟨?_, fun k K n hm => ?_, rfl, rfl⟩, z.1.mx, mh_fix.mpr ⟨fun k => ?_, fun K i hK => ?_⟩, ?_, ?_, ?_⟩
    · exact (x_newa_at (h := x_setc (mh g2 F) a' b') (n := 1) (K := 21) (K' := 8) (by decide)).1.trans P.2.1
    · have hK := msl_K hm
      obtain ⟨r1, r2, r3, -⟩ := P.2.2.2.1 k K n hm (by omega)
      have q1 := x_newa_at (h := x_setc (mh g2 F) a' b') (n := 1) (K := 21) (K' := K) (by omega)
      have q8 := x_newa_at (h := x_setc (mh g2 F) a' b') (n := 1) (K := 21) (K' := 8) (by decide)
      exact ⟨(congrFun (congrFun q8.2.2.2 k) 1).trans r1, q1.1.trans r2, (congrFun q1.2.1 1).trans r3⟩
    · have q8 := x_newa_at (h := x_setc (mh g2 F) a' b') (n := 1) (K := 21) (K' := 8) (by decide)
      rw [q8.2.2.1]
      rfl
    · have q1 := x_newa_at (h := x_setc (mh g2 F) a' b') (n := 1) (K := 21) (K' := K) (by omega)
      rw [q1.2.2.1]
      show _ = (if K = 8 ∧ i = 1 then F 8 1 else if (22 ≤ K ∧ K ≤ 64) ∧ 1 = 1 then F K i else x_vi g2 K 1 i)
      rw [if_neg (by omega), if_pos ⟨hK, rfl⟩]
    · rw [x_newa_cn, if_pos rfl]
      show x_cn g2 21 + 1 = 1
      rw [h21]
    · exact if_pos ⟨rfl, by show 1 = x_cn g2 21 + 1; omega⟩
    · rw [s10.2.1, s10.2.2.1]; exact hs
  refine ⟨I, ?_⟩
  have k4 : ck 4 := by unfold ck; omega
  have k5 : ck 5 := by unfold ck; omega
  have k20 : ck 20 := by unfold ck; omega
  have e := (I.setc (a := 0) (b := 0)).2.2.2.1
  have M9 := MR.of (F := F) I.2.1
  rw [e] at M9
  refine ⟨?_, (CR.start hC hni hct).cg (fun K hk => st K hk.2.1 (by have := hk.1; omega) (by have := hk.1; omega)), F, M9, Sim.start hC hni hct z, ?_⟩
  · unfold CQ
    rw [(st 5 (by decide) (by decide) (by decide)).1, (st 4 (by decide) (by decide) (by decide)).1, (st 20 (by decide) (by decide) (by decide)).1, hct 5 k5, hct 4 k4, hct 20 k20]
    decide
  · have f0 : ∀ k, (F 8 k).toInt = 0 := fun k => z.1.z (by omega)
    unfold FB
    rw [f0 1, f0 2]
    show (0 ≤ (0 : Int) ∧ (0 : Int) ≤ 100 * ((0 : Nat) : Int)) ∧ (0 : Int) ≤ 0 ∧ (0 : Int) ≤ ((0 : Nat) : Int)
    decide
section XLS
variable {n0 : Nat} {oa : Nat → Nat → Nat} {D : (Nat → ClassId) × (Nat → Nat → Nat) × (Nat → ClassId)} {p : Program} {l : Launch} {e : Env} {R : Room} {s : State} {m : MethodId} {args : Array Value} {below : List Frame} {meth : Method} {c : Code} {h0 : xH} {Ls : Nat × (Nat → Int32)}
theorem law_start (C : x_Cx n0 oa D xm_law h0 p l R s m args meth c) (hnc : va_Nc (x_en 2) (x_en 1) s) (hL : Ls.1 ≤ 3072) (hc : x_ce h0 = 0) (hs : x_so h0 = 0) (hcn : ∀ K, x_cn h0 K = if K = 9 then 6 else if K = 10 then 1 else 0) (hsc : (x_ln h0 10 1, x_vi h0 10 1) = Ls) :
    x_At n0 oa D p l e R s m args below meth c xm_law h0 (x_MQ n0 oa D s args below xm_law h0 ZL) 0 ([.inr (.inr (10, 1)), .inr (.inr (0, 0)), .inr (.inr (0, 0)), .inr (.inr (0, 0)), .inr (.inr (0, 0)), .inr (.inr (0, 0)), .inr (.inr (0, 0))], [], h0) := by
  have c7 : x_cn h0 7 = 0 := hcn 7
  refine a_blk (N := 2000000000000) C oL_0 ?_
  refine q_newo (by omega) (by omega) ?_
  rw [c7]
  refine q_dup rfl (q_calli rfl (by decide) (Nat.le_refl 1) (by decide) (Nat.le_of_ble_eq_true rfl) (Nat.le_of_ble_eq_true rfl) (by show x_ce h0 + 1 + 1000 ≤ 601024; omega) (by show x_so h0 + 5 + 6000 ≤ 7293033; omega) ?_)
  refine xC.up (tx43 (h := x_setc (x_new h0 7 5) 0 0) rfl rfl (fun K hk => ?_) ?_ (fun g hC hm hni hct => ?_)) (by decide)
  · show x_cn (x_new h0 7 5) K = _
    rw [x_new_cn]
    by_cases e7 : K = 7
    · rw [if_pos e7, if_pos e7, c7]
    · rw [if_neg e7, if_neg e7, hcn K]
      by_cases e9 : K = 9
      · rw [if_pos e9, if_pos e9]
      · rw [if_neg e9, if_neg e9, if_neg hk.2.2]
  · exact if_pos ⟨rfl, by show 1 = x_cn h0 7 + 1; omega⟩
  · have hm' : x_mq g = x_mq (x_new h0 7 5) := hm
    have m8 := x_mq_at hm' (K := 8) rfl
    have m10 := x_mq_at hm' (K := 10) rfl
    have m21 := x_mq_at hm' (K := 21) rfl
    have n8 := x_new_at (h := h0) (N := 5) (K := 7) (K' := 8) (by decide)
    have n10 := x_new_at (h := h0) (N := 5) (K := 7) (K' := 10) (by decide)
    have n21 := x_new_at (h := h0) (N := 5) (K := 7) (K' := 21) (by decide)
    have c8 : x_cn g 8 = 0 := m8.2.2.2.trans (n8.1.trans (hcn 8))
    have c21 : x_cn g 21 = 0 := m21.2.2.2.trans (n21.1.trans (hcn 21))
    have sg : (x_ln g 10 1, x_vi g 10 1) = Ls := (Prod.ext (congrFun (m10.2.2.1.trans n10.2.1) 1) (congrFun (m10.1.trans n10.2.2.1) 1) : (x_ln g 10 1, x_vi g 10 1) = (x_ln h0 10 1, x_vi h0 10 1)).trans hsc
    have cr : ∀ K, 22 ≤ K → K ≤ 64 → x_cn g K = 0 := by
      intro K k1 k2
      have q := x_mq_at hm' (xm_kr ⟨k1, k2⟩)
      have n := x_new_at (h := h0) (N := 5) (K := 7) (K' := K) (by omega)
      exact q.2.2.2.trans (n.1.trans (by rw [hcn K, if_neg (by omega), if_neg (by omega)]))
    show x_seq _ _ _ _ (_, [.inr (.inr (7, 1))], x_setc g (x_ce h0 + 1 + 1000) (x_so h0 + 5 + 6000))
    refine q_astore (Nat.le_of_ble_eq_true rfl) (q_newo (by show x_ce h0 + 1 + 1000 + 1 ≤ 601024; omega) (by show x_so h0 + 5 + 6000 + 49 ≤ 7293033; omega) ?_)
    rw [show x_cn (x_setc g (x_ce h0 + 1 + 1000) (x_so h0 + 5 + 6000)) 8 = 0 from c8]
    refine q_dup rfl (q_calli rfl (by decide) (Nat.le_refl 1) (by decide) (Nat.le_of_ble_eq_true rfl) (Nat.le_of_ble_eq_true rfl) (by show x_ce h0 + 1 + 1000 + 1 + 43 ≤ 601024; omega) (by show x_so h0 + 5 + 6000 + 49 + 3970 ≤ 7293033; omega) ?_)
    refine xC.up (tx89 (h := x_setc (x_new (x_setc g (x_ce h0 + 1 + 1000) (x_so h0 + 5 + 6000)) 8 49) 0 0) rfl rfl ?_ (fun k => ?_) (fun K k1 k2 => ?_) (fun g2 F P z => ?_)) (by decide)
    · show x_cn (x_new g 8 49) 8 = 1
      rw [x_new_cn, if_pos rfl, c8]
    · exact if_pos ⟨rfl, by show 1 = x_cn g 8 + 1; omega⟩
    · show x_cn (x_new g 8 49) K = 0
      rw [x_new_cn, if_neg (by omega)]
      exact cr K k1 k2
    · have d21 : x_cn g2 21 = 0 := (P.1 21 (by decide) (by decide)).1.trans ((x_new_at (h := x_setc g (x_ce h0 + 1 + 1000) (x_so h0 + 5 + 6000)) (N := 49) (K := 8) (K' := 21) (by decide)).1.trans c21)
      show x_seq _ _ _ _ (_, [.inr (.inr (8, 1))], x_setc (mh g2 F) (x_ce h0 + 1 + 1000 + 1 + 43) (x_so h0 + 5 + 6000 + 49 + 3970))
      refine q_astore (Nat.le_of_ble_eq_true rfl) (q_iconst ⟨rfl, d21, by show x_ce h0 + 1 + 1000 + 1 + 43 + 1 ≤ 601024; omega, by show x_so h0 + 5 + 6000 + 49 + 3970 + 1 ≤ 7293033; omega, ?_⟩)
      obtain ⟨I, K⟩ := LI.first (a' := x_ce h0 + 1 + 1000 + 1 + 43) (b' := x_so h0 + 5 + 6000 + 49 + 3970) hC P z d21 sg hni hct
      show x_seq _ _ _ _ (_, [.inr (.inr (21, 1))], x_newa (x_setc (mh g2 F) (x_ce h0 + 1 + 1000 + 1 + 43) (x_so h0 + 5 + 6000 + 49 + 3970)) 21 1)
      have e1 : x_ce (x_newa (x_setc (mh g2 F) (x_ce h0 + 1 + 1000 + 1 + 43) (x_so h0 + 5 + 6000 + 49 + 3970)) 21 1) = x_ce h0 + 1 + 1000 + 1 + 43 + 1 := rfl
      have e2 : x_so (x_newa (x_setc (mh g2 F) (x_ce h0 + 1 + 1000 + 1 + 43) (x_so h0 + 5 + 6000 + 49 + 3970)) 21 1) = x_so h0 + 5 + 6000 + 49 + 3970 + 1 := rfl
      generalize x_newa (x_setc (mh g2 F) (x_ce h0 + 1 + 1000 + 1 + 43) (x_so h0 + 5 + 6000 + 49 + 3970)) 21 1 = G at I K e1 e2 ⊢
      refine q_astore (Nat.le_of_ble_eq_true rfl) (v_iconst (k := 0) rfl (fun z0 ez0 => q_istore (Nat.le_of_ble_eq_true rfl) (q_goto ?_)))
      exact law_loop C hnc hL (Ls.1 + 1) z0 (.inr (.inr (0, 0))) (.inr (.inr (0, 0))) G F (v0 g, 0) I K (by omega) (by omega) (by omega) (by omega) (by omega) (by omega)
end XLS
