/-! THE REFERENCE: what it looks up -/
def ftl (F : xF) (c : Nat) : Nat → Int32 → Bool → Bool
  | 0, _, s => s
  | k + 1, p, s => ftl F c k (p / 10) (s && (F 49 (8 * c + k) == p - p / 10 * 10))
def msz (p : Int32) : Nat := if 999 < p.toInt then 3 else if 99 < p.toInt then 2 else 1
/-- the digits of c begin with the prefix p -/
def FT (F : xF) (c : Nat) (p : Int32) : Bool := ftl F c (msz p) p (decide ((msz p : Int) ≤ (F 48 c).toInt))
theorem msz_le {p : Int32} : 1 ≤ msz p ∧ msz p ≤ 3 := by
  unfold msz
  by_cases a : 999 < p.toInt
  · rw [if_pos a]; omega
  · rw [if_neg a]
    by_cases b : 99 < p.toInt
    · rw [if_pos b]; omega
    · rw [if_neg b]; omega
theorem msz_eq {p v : Int32} (h : (999 < p.toInt ∧ v.toInt = 3) ∨ (99 < p.toInt ∧ p.toInt ≤ 999 ∧ v.toInt = 2) ∨ (p.toInt ≤ 99 ∧ v.toInt = 1)) : v.toInt = msz p := by
  unfold msz
  by_cases a : 999 < p.toInt
  · rw [if_pos a]; omega
  · rw [if_neg a]
    by_cases b : 99 < p.toInt
    · rw [if_pos b]; omega
    · rw [if_neg b]; omega
theorem tv90 {h : xH} {Z : xO → xH → Prop} {F : xF}  (S : MS h)  (hZ : ∀ (o : xO) (F' : xF), F' = F ∧ (∃ v : Int32, o = .inl (some (.inl v)) ∧ (v = F 8 0)) → Z o (mh h F')) : xC 10 90 [.inr (.inr (8, 1))] (mh h F) Z := by
  refine ⟨rfl, S.2.2.1, S.2.2.2, ?_⟩
  show xR _ 90 0 ([.inr (.inr (8, 1))], [], mh h F) Z
  refine xR.blk c90_0 ?_
  refine q_aload rfl (by decide) ?_
  refine m_gfi S ?_
  exact q_iret (hZ _ _ ⟨rfl, ⟨_, rfl, rfl⟩⟩)
theorem tv91 {h : xH} {Z : xO → xH → Prop} {F : xF} {x1 : Int32} (S : MS h)  (hZ : ∀ (o : xO) (F' : xF), (F' = x_u2 F 8 0 x1) ∧ (∃ v : Int32, o = .inl (some (.inl v)) ∧ (0 ≤ v.toInt ∧ v.toInt ≤ 1 ∧ (v.toInt = 1 ↔ 0 < x1.toInt))) → Z o (mh h F')) : xC 10 91 [.inr (.inr (8, 1)), .inl x1] (mh h F) Z := by
  refine ⟨rfl, S.2.2.1, S.2.2.2, ?_⟩
  show xR _ 91 0 ([.inr (.inr (8, 1)), .inl x1], [], mh h F) Z
  refine xR.blk c91_0 ?_
  refine q_aload rfl (by decide) ?_
  refine q_iload rfl ?_
  refine m_pfi S ?_
  show x_seq _ _ _ _ ([.inr (.inr (8, 1)), .inl x1], [], mh h (x_u2 F 8 0 x1))
  refine q_iload rfl ?_
  refine v_if_le (fun d1 => ?_) (fun d1 => ?_)
  · skip
    refine xR.blk c91_13 ?_
    refine v_iconst (k := 0) rfl (fun v2 e3 => ?_)
    refine q_goto ?_
    refine xR.blk c91_14 ?_
    exact q_zret (i32_01 (by omega)) (hZ _ _ ⟨rfl, ⟨_, rfl, by omega⟩⟩)
  · skip
    refine v_iconst (k := 1) rfl (fun v4 e5 => ?_)
    refine q_goto ?_
    refine xR.blk c91_14 ?_
    exact q_zret (i32_01 (by omega)) (hZ _ _ ⟨rfl, ⟨_, rfl, by omega⟩⟩)
theorem tv92 {h : xH} {Z : xO → xH → Prop} {F : xF} {x0 : Int32} {x1 : Int32} {x2 : Int32} (S : MS h)  (hZ : ∀ (o : xO) (F' : xF), F' = F ∧ (∃ v : Int32, o = .inl (some (.inl v)) ∧ (0 ≤ v.toInt ∧ v.toInt ≤ 1 ∧ (v.toInt = 1 ↔ x1.toInt ≤ x0.toInt ∧ x0.toInt ≤ x2.toInt))) → Z o (mh h F')) : xC 10 92 [.inl x0, .inl x1, .inl x2] (mh h F) Z := by
  refine ⟨rfl, S.2.2.1, S.2.2.2, ?_⟩
  show xR _ 92 0 ([.inl x0, .inl x1, .inl x2], [], mh h F) Z
  refine xR.blk c92_0 ?_
  refine q_iload rfl ?_
  refine q_iload rfl ?_
  refine v_icmp_lt (fun d1 => ?_) (fun d1 => ?_)
  · skip
    refine xR.blk c92_14 ?_
    refine v_iconst (k := 0) rfl (fun v2 e3 => ?_)
    refine q_goto ?_
    refine xR.blk c92_15 ?_
    exact q_zret (i32_01 (by omega)) (hZ _ _ ⟨rfl, ⟨_, rfl, by omega⟩⟩)
  · skip
    refine q_iload rfl ?_
    refine q_iload rfl ?_
    refine v_icmp_gt (fun d4 => ?_) (fun d4 => ?_)
    · skip
      refine xR.blk c92_14 ?_
      refine v_iconst (k := 0) rfl (fun v5 e6 => ?_)
      refine q_goto ?_
      refine xR.blk c92_15 ?_
      exact q_zret (i32_01 (by omega)) (hZ _ _ ⟨rfl, ⟨_, rfl, by omega⟩⟩)
    · skip
      refine v_iconst (k := 1) rfl (fun v7 e8 => ?_)
      refine q_goto ?_
      refine xR.blk c92_15 ?_
      exact q_zret (i32_01 (by omega)) (hZ _ _ ⟨rfl, ⟨_, rfl, by omega⟩⟩)
theorem tv93 {h : xH} {Z : xO → xH → Prop} {F : xF} {x0 : Int32} {x1 : Int32} (S : MS h)  (hZ : ∀ (o : xO) (F' : xF), F' = F ∧ (∃ v : Int32, o = .inl (some (.inl v)) ∧ (0 ≤ v.toInt ∧ v.toInt ≤ 1 ∧ (v.toInt = 1 ↔ (0 ≤ x0.toInt ∧ x0.toInt ≤ 2) ∧ 0 ≤ x1.toInt ∧ x1.toInt ≤ 23))) → Z o (mh h F')) : xC 20 93 [.inl x0, .inl x1] (mh h F) Z := by
  refine ⟨rfl, S.2.2.1, S.2.2.2, ?_⟩
  show xR _ 93 0 ([.inl x0, .inl x1], [], mh h F) Z
  refine xR.blk c93_0 ?_
  refine q_iload rfl ?_
  refine v_iconst (k := 0) rfl (fun v1 e2 => ?_)
  refine v_iconst (k := 2) rfl (fun v3 e4 => ?_)
  refine q_call (Nat.le_of_ble_eq_true rfl) (Nat.le_of_ble_eq_true rfl) (by show x_ce h + 0 ≤ 0; rw [S.2.2.1]; exact Nat.le_refl 0) (by show x_so h + 0 ≤ 0; rw [S.2.2.2]; exact Nat.le_refl 0) ?_
  refine xC.up (tv92 (h := x_setc h 0 0) (F := F) (x0 := x0) (x1 := v1) (x2 := v3) S.set  (fun o5 F6 hp => ?_)) (by omega)
  obtain ⟨hF9, ⟨v8, rfl, q7⟩⟩ := hp
  rw [hF9]
  show x_seq _ _ _ _ ([.inl x0, .inl x1], [.inl v8], mh h F)
  refine v_if_eq (fun d10 => ?_) (fun d10 => ?_)
  · skip
    refine xR.blk c93_23 ?_
    refine v_iconst (k := 0) rfl (fun v11 e12 => ?_)
    refine q_goto ?_
    refine xR.blk c93_24 ?_
    exact q_zret (i32_01 (by omega)) (hZ _ _ ⟨rfl, ⟨_, rfl, by omega⟩⟩)
  · skip
    refine q_iload rfl ?_
    refine v_iconst (k := 0) rfl (fun v13 e14 => ?_)
    refine v_iconst (k := 23) rfl (fun v15 e16 => ?_)
    refine q_call (Nat.le_of_ble_eq_true rfl) (Nat.le_of_ble_eq_true rfl) (by show x_ce h + 0 ≤ 0; rw [S.2.2.1]; exact Nat.le_refl 0) (by show x_so h + 0 ≤ 0; rw [S.2.2.2]; exact Nat.le_refl 0) ?_
    refine xC.up (tv92 (h := x_setc h 0 0) (F := F) (x0 := x1) (x1 := v13) (x2 := v15) S.set  (fun o17 F18 hp => ?_)) (by omega)
    obtain ⟨hF21, ⟨v20, rfl, q19⟩⟩ := hp
    rw [hF21]
    show x_seq _ _ _ _ ([.inl x0, .inl x1], [.inl v20], mh h F)
    refine v_if_eq (fun d22 => ?_) (fun d22 => ?_)
    · skip
      refine xR.blk c93_23 ?_
      refine v_iconst (k := 0) rfl (fun v23 e24 => ?_)
      refine q_goto ?_
      refine xR.blk c93_24 ?_
      exact q_zret (i32_01 (by omega)) (hZ _ _ ⟨rfl, ⟨_, rfl, by omega⟩⟩)
    · skip
      refine v_iconst (k := 1) rfl (fun v25 e26 => ?_)
      refine q_goto ?_
      refine xR.blk c93_24 ?_
      exact q_zret (i32_01 (by omega)) (hZ _ _ ⟨rfl, ⟨_, rfl, by omega⟩⟩)
theorem tv95 {h : xH} {Z : xO → xH → Prop} {F : xF} {x0 : Int32} (S : MS h)  (hZ : ∀ (o : xO) (F' : xF), F' = F ∧ (∃ v : Int32, o = .inl (some (.inl v)) ∧ ((999 < x0.toInt ∧ v.toInt = 3) ∨ (99 < x0.toInt ∧ x0.toInt ≤ 999 ∧ v.toInt = 2) ∨ (x0.toInt ≤ 99 ∧ v.toInt = 1))) → Z o (mh h F')) : xC 10 95 [.inl x0] (mh h F) Z := by
  refine ⟨rfl, S.2.2.1, S.2.2.2, ?_⟩
  show xR _ 95 0 ([.inl x0], [], mh h F) Z
  refine xR.blk c95_0 ?_
  refine q_iload rfl ?_
  refine v_iconst (k := 999) rfl (fun v1 e2 => ?_)
  refine v_icmp_le (fun d3 => ?_) (fun d3 => ?_)
  · skip
    refine xR.blk c95_11 ?_
    refine q_iload rfl ?_
    refine v_iconst (k := 99) rfl (fun v4 e5 => ?_)
    refine v_icmp_le (fun d6 => ?_) (fun d6 => ?_)
    · skip
      refine xR.blk c95_21 ?_
      refine v_iconst (k := 1) rfl (fun v7 e8 => ?_)
      refine q_goto ?_
      refine xR.blk c95_22 ?_
      exact q_iret (hZ _ _ ⟨rfl, ⟨_, rfl, by omega⟩⟩)
    · skip
      refine v_iconst (k := 2) rfl (fun v9 e10 => ?_)
      refine q_goto ?_
      refine xR.blk c95_22 ?_
      exact q_iret (hZ _ _ ⟨rfl, ⟨_, rfl, by omega⟩⟩)
  · skip
    refine v_iconst (k := 3) rfl (fun v11 e12 => ?_)
    refine q_goto ?_
    refine xR.blk c95_22 ?_
    exact q_iret (hZ _ _ ⟨rfl, ⟨_, rfl, by omega⟩⟩)
theorem tv96 {h : xH} {Z : xO → xH → Prop} {F : xF} {x0 : Int32} {x1 : Int32} (S : MS h)  (hZ : ∀ (o : xO) (F' : xF), F' = F ∧ (∃ v : Int32, o = .inl (some (.inl v)) ∧ (0 ≤ v.toInt ∧ v.toInt ≤ 1)) → Z o (mh h F')) : xC 80000000000 96 [.inl x0, .inl x1] (mh h F) Z := by
  refine ⟨rfl, S.2.2.1, S.2.2.2, ?_⟩
  show xR _ 96 0 ([.inl x0, .inl x1, .inr (.inr (0, 0)), .inr (.inr (0, 0))], [], mh h F) Z
  refine xR.blk c96_0 ?_
  refine q_iload rfl ?_
  refine q_istore (Nat.le_of_ble_eq_true rfl) ?_
  show x_seq _ _ _ _ ([.inl x0, .inl x1, .inl x0, .inr (.inr (0, 0))], [], mh h F)
  refine q_iload rfl ?_
  refine q_istore (Nat.le_of_ble_eq_true rfl) ?_
  show x_seq _ _ _ _ ([.inl x0, .inl x1, .inl x0, .inl x1], [], mh h F)
  refine q_goto ?_
  have lp1 : ∀ (m2 : Nat) (ylp1_2 : Int32), ylp1_2.toInt.toNat < m2 → xR (20000000000 + 20 * m2) 96 4 ([.inl x0, .inl x1, .inl ylp1_2, .inl x1], [], mh h F) Z := by
    intro m2
    induction m2 with
    | zero => intro ylp1_2 kmlp1; exact absurd kmlp1 (by omega)
    | succ m2 ih3 =>
      intro ylp1_2 kmlp1
      rw [show 20000000000 + 20 * (m2 + 1) = 20000000000 + 20 * m2 + 20 by omega]
      refine xR.blk c96_4 ?_
      refine q_iload rfl ?_
      refine q_call (Nat.le_of_ble_eq_true rfl) (Nat.le_of_ble_eq_true rfl) (by show x_ce h + 0 ≤ 0; rw [S.2.2.1]; exact Nat.le_refl 0) (by show x_so h + 0 ≤ 0; rw [S.2.2.2]; exact Nat.le_refl 0) ?_
      refine xC.up (tv95 (h := x_setc h 0 0) (F := F) (x0 := ylp1_2) S.set  (fun o4 F5 hp => ?_)) (by omega)
      obtain ⟨hF8, ⟨v7, rfl, q6⟩⟩ := hp
      rw [hF8]
      show x_seq _ _ _ _ ([.inl x0, .inl x1, .inl ylp1_2, .inl x1], [.inl v7], mh h F)
      refine q_iload rfl ?_
      refine q_call (Nat.le_of_ble_eq_true rfl) (Nat.le_of_ble_eq_true rfl) (by show x_ce h + 0 ≤ 0; rw [S.2.2.1]; exact Nat.le_refl 0) (by show x_so h + 0 ≤ 0; rw [S.2.2.2]; exact Nat.le_refl 0) ?_
      refine xC.up (tv95 (h := x_setc h 0 0) (F := F) (x0 := x1) S.set  (fun o9 F10 hp => ?_)) (by omega)
      obtain ⟨hF13, ⟨v12, rfl, q11⟩⟩ := hp
      rw [hF13]
      show x_seq _ _ _ _ ([.inl x0, .inl x1, .inl ylp1_2, .inl x1], [.inl v12, .inl v7], mh h F)
      refine v_icmp_le (fun d14 => ?_) (fun d14 => ?_)
      · skip
        have lp15 : ∀ (m16 : Nat) (ylp15_3 : Int32), ylp15_3.toInt.toNat < m16 → xR (100 + 9 * m16) 96 23 ([.inl x0, .inl x1, .inl ylp1_2, .inl ylp15_3], [], mh h F) Z := by
          intro m16
          induction m16 with
          | zero => intro ylp15_3 kmlp15; exact absurd kmlp15 (by omega)
          | succ m16 ih17 =>
            intro ylp15_3 kmlp15
            rw [show 100 + 9 * (m16 + 1) = 100 + 9 * m16 + 9 by omega]
            refine xR.blk c96_23 ?_
            refine q_iload rfl ?_
            refine q_call (Nat.le_of_ble_eq_true rfl) (Nat.le_of_ble_eq_true rfl) (by show x_ce h + 0 ≤ 0; rw [S.2.2.1]; exact Nat.le_refl 0) (by show x_so h + 0 ≤ 0; rw [S.2.2.2]; exact Nat.le_refl 0) ?_
            refine xC.up (tv95 (h := x_setc h 0 0) (F := F) (x0 := ylp15_3) S.set  (fun o18 F19 hp => ?_)) (by omega)
            obtain ⟨hF22, ⟨v21, rfl, q20⟩⟩ := hp
            rw [hF22]
            show x_seq _ _ _ _ ([.inl x0, .inl x1, .inl ylp1_2, .inl ylp15_3], [.inl v21], mh h F)
            refine q_iload rfl ?_
            refine q_call (Nat.le_of_ble_eq_true rfl) (Nat.le_of_ble_eq_true rfl) (by show x_ce h + 0 ≤ 0; rw [S.2.2.1]; exact Nat.le_refl 0) (by show x_so h + 0 ≤ 0; rw [S.2.2.2]; exact Nat.le_refl 0) ?_
            refine xC.up (tv95 (h := x_setc h 0 0) (F := F) (x0 := ylp1_2) S.set  (fun o23 F24 hp => ?_)) (by omega)
            obtain ⟨hF27, ⟨v26, rfl, q25⟩⟩ := hp
            rw [hF27]
            show x_seq _ _ _ _ ([.inl x0, .inl x1, .inl ylp1_2, .inl ylp15_3], [.inl v26, .inl v21], mh h F)
            refine v_icmp_le (fun d28 => ?_) (fun d28 => ?_)
            · skip
              refine xR.blk c96_42 ?_
              refine q_iload rfl ?_
              refine q_iload rfl ?_
              refine v_icmp_ne (fun d29 => ?_) (fun d29 => ?_)
              · skip
                refine xR.blk c96_51 ?_
                refine v_iconst (k := 0) rfl (fun v30 e31 => ?_)
                refine q_goto ?_
                refine xR.blk c96_52 ?_
                exact q_zret (i32_01 (by omega)) (hZ _ _ ⟨rfl, ⟨_, rfl, by omega⟩⟩)
              · skip
                refine v_iconst (k := 1) rfl (fun v32 e33 => ?_)
                refine q_goto ?_
                refine xR.blk c96_52 ?_
                exact q_zret (i32_01 (by omega)) (hZ _ _ ⟨rfl, ⟨_, rfl, by omega⟩⟩)
            · skip
              refine q_iload rfl ?_
              refine v_iconst (k := 10) rfl (fun v34 e35 => ?_)
              refine v_idiv e35 (by decide) (by omega) (fun v36 e37 => ?_)
              refine q_istore (Nat.le_of_ble_eq_true rfl) ?_
              show x_seq _ _ _ _ ([.inl x0, .inl x1, .inl ylp1_2, .inl v36], [], mh h F)
              refine q_goto ?_
              exact (ih17 v36  (by omega)).up (by omega)
        have b9 := Int32.toInt_lt x1
        exact (lp15 2147483649 x1  (by omega)).up (by omega)
      · skip
        refine q_iload rfl ?_
        refine v_iconst (k := 10) rfl (fun v38 e39 => ?_)
        refine v_idiv e39 (by decide) (by omega) (fun v40 e41 => ?_)
        refine q_istore (Nat.le_of_ble_eq_true rfl) ?_
        show x_seq _ _ _ _ ([.inl x0, .inl x1, .inl v40, .inl x1], [], mh h F)
        refine q_goto ?_
        exact (ih3 v40  (by omega)).up (by omega)
  have b9 := Int32.toInt_lt x0
  exact (lp1 2147483649 x0  (by omega)).up (by omega)
theorem tv99 {h : xH} {Z : xO → xH → Prop} {F : xF} {x1 : Int32} {x2 : Int32} (S : MS h) (gV : VC x1.toInt) (hZ : ∀ (o : xO) (F' : xF), (∃ K i, F' = x_u2 F K i x2 ∧ (K = 36 ∨ K = 37 ∨ K = 38 ∨ K = 41) ∧ (x1.toInt < 5000 ∧ 30 ≤ x1.toInt % 1000 → K = 38 ∧ (i : Int) = 3 * (x1.toInt / 1000) + x1.toInt % 1000 - 30)) ∧ (o = .inl none) → Z o (mh h F')) : xC 20 99 [.inr (.inr (8, 1)), .inl x1, .inl x2] (mh h F) Z := by
  refine ⟨rfl, S.2.2.1, S.2.2.2, ?_⟩
  have gV2 := gV
  unfold VC at gV2
  show xR _ 99 0 ([.inr (.inr (8, 1)), .inl x1, .inl x2, .inr (.inr (0, 0)), .inr (.inr (0, 0))], [], mh h F) Z
  refine xR.blk c99_0 ?_
  refine q_iload rfl ?_
  refine v_iconst (k := 5000) rfl (fun v1 e2 => ?_)
  refine v_icmp_lt (fun d3 => ?_) (fun d3 => ?_)
  · skip
    refine xR.blk c99_19 ?_
    refine q_iload rfl ?_
    refine v_iconst (k := 1000) rfl (fun v4 e5 => ?_)
    refine v_idiv e5 (by decide) (by omega) (fun v6 e7 => ?_)
    refine q_istore (Nat.le_of_ble_eq_true rfl) ?_
    show x_seq _ _ _ _ ([.inr (.inr (8, 1)), .inl x1, .inl x2, .inl v6, .inr (.inr (0, 0))], [], mh h F)
    refine q_iload rfl ?_
    refine v_iconst (k := 1000) rfl (fun v8 e9 => ?_)
    refine v_irem e9 (by decide) (by omega) (fun v10 e11 => ?_)
    refine q_istore (Nat.le_of_ble_eq_true rfl) ?_
    show x_seq _ _ _ _ ([.inr (.inr (8, 1)), .inl x1, .inl x2, .inl v6, .inl v10], [], mh h F)
    refine q_iload rfl ?_
    refine v_iconst (k := 30) rfl (fun v12 e13 => ?_)
    refine v_icmp_lt (fun d14 => ?_) (fun d14 => ?_)
    · skip
      refine xR.blk c99_57 ?_
      refine q_iload rfl ?_
      refine v_iconst (k := 20) rfl (fun v15 e16 => ?_)
      refine v_icmp_lt (fun d17 => ?_) (fun d17 => ?_)
      · skip
        refine xR.blk c99_82 ?_
        refine q_aload rfl (by decide) ?_
        refine m_gfr S (n := 36) (by decide) ?_
        refine v_iconst (k := 12) rfl (fun v18 e19 => ?_)
        refine q_iload rfl ?_
        refine v_imul' e19 (by omega) (fun v20 e21 => ?_)
        refine q_iload rfl ?_
        refine v_iadd (by omega) (fun v22 e23 => ?_)
        refine q_iload rfl ?_
        refine m_ast (k := 17) (n := 36) S (by decide) (by omega) (by omega) ?_
        show x_seq _ _ _ _ ([.inr (.inr (8, 1)), .inl x1, .inl x2, .inl v6, .inl v10], [], mh h (x_u2 F 36 v22.toNatClampNeg x2))
        refine q_goto ?_
        refine xR.blk c99_95 ?_
        exact q_ret (hZ _ _ ⟨⟨36, _, rfl, by omega, fun hz => by have c9 := x_clamp (n := v22) (by omega); omega⟩, rfl⟩)
      · skip
        refine q_aload rfl (by decide) ?_
        refine m_gfr S (n := 15) (by decide) ?_
        refine v_iconst (k := 5) rfl (fun v24 e25 => ?_)
        refine q_iload rfl ?_
        refine v_imul' e25 (by omega) (fun v26 e27 => ?_)
        refine q_iload rfl ?_
        refine v_iadd (by omega) (fun v28 e29 => ?_)
        refine v_iconst (k := 20) rfl (fun v30 e31 => ?_)
        refine v_isub (by omega) (fun v32 e33 => ?_)
        refine q_iload rfl ?_
        refine m_ast (k := 18) (n := 15) S (by decide) (by omega) (by omega) ?_
        show x_seq _ _ _ _ ([.inr (.inr (8, 1)), .inl x1, .inl x2, .inl v6, .inl v10], [], mh h (x_u2 F 37 v32.toNatClampNeg x2))
        refine q_goto ?_
        refine xR.blk c99_95 ?_
        exact q_ret (hZ _ _ ⟨⟨37, _, rfl, by omega, fun hz => by have c9 := x_clamp (n := v32) (by omega); omega⟩, rfl⟩)
    · skip
      refine q_aload rfl (by decide) ?_
      refine m_gfr S (n := 9) (by decide) ?_
      refine v_iconst (k := 3) rfl (fun v34 e35 => ?_)
      refine q_iload rfl ?_
      refine v_imul' e35 (by omega) (fun v36 e37 => ?_)
      refine q_iload rfl ?_
      refine v_iadd (by omega) (fun v38 e39 => ?_)
      refine v_iconst (k := 30) rfl (fun v40 e41 => ?_)
      refine v_isub (by omega) (fun v42 e43 => ?_)
      refine q_iload rfl ?_
      refine m_ast (k := 19) (n := 9) S (by decide) (by omega) (by omega) ?_
      show x_seq _ _ _ _ ([.inr (.inr (8, 1)), .inl x1, .inl x2, .inl v6, .inl v10], [], mh h (x_u2 F 38 v42.toNatClampNeg x2))
      refine q_goto ?_
      refine xR.blk c99_95 ?_
      exact q_ret (hZ _ _ ⟨⟨38, _, rfl, by omega, fun hz => by have c9 := x_clamp (n := v42) (by omega); omega⟩, rfl⟩)
  · skip
    refine q_aload rfl (by decide) ?_
    refine m_gfr S (n := 16) (by decide) ?_
    refine q_iload rfl ?_
    refine v_iconst (k := 5000) rfl (fun v44 e45 => ?_)
    refine v_isub (by omega) (fun v46 e47 => ?_)
    refine q_iload rfl ?_
    refine m_ast (k := 23) (n := 16) S (by decide) (by omega) (by omega) ?_
    show x_seq _ _ _ _ ([.inr (.inr (8, 1)), .inl x1, .inl x2, .inr (.inr (0, 0)), .inr (.inr (0, 0))], [], mh h (x_u2 F 41 v46.toNatClampNeg x2))
    exact q_ret (hZ _ _ ⟨⟨41, _, rfl, by omega, fun hz => by have c9 := x_clamp (n := v46) (by omega); omega⟩, rfl⟩)
theorem tv107 {h : xH} {Z : xO → xH → Prop} {F : xF} {x1 : Int32} (S : MS h) (g1 : 0 ≤ x1.toInt ∧ x1.toInt ≤ 2) (hZ : ∀ (o : xO) (F' : xF), F' = F ∧ (∃ v : Int32, o = .inl (some (.inl v)) ∧ ((-1 ≤ v.toInt ∧ v.toInt ≤ 2) ∧ (0 ≤ v.toInt → ∀ j : Nat, (j : Int) = 3 * x1.toInt + v.toInt → (F 38 j).toInt < 0) ∧ (v.toInt < 0 → ∀ j : Nat, 3 * x1.toInt ≤ j → (j : Int) ≤ 3 * x1.toInt + 2 → 0 ≤ (F 38 j).toInt))) → Z o (mh h F')) : xC 100 107 [.inr (.inr (8, 1)), .inl x1] (mh h F) Z := by
  refine ⟨rfl, S.2.2.1, S.2.2.2, ?_⟩
  show xR _ 107 0 ([.inr (.inr (8, 1)), .inl x1, .inr (.inr (0, 0)), .inr (.inr (0, 0))], [], mh h F) Z
  refine xR.blk c107_0 ?_
  refine v_iconst (k := -1) rfl (fun v1 e2 => ?_)
  refine q_istore (Nat.le_of_ble_eq_true rfl) ?_
  show x_seq _ _ _ _ ([.inr (.inr (8, 1)), .inl x1, .inl v1, .inr (.inr (0, 0))], [], mh h F)
  refine v_iconst (k := 2) rfl (fun v3 e4 => ?_)
  refine q_istore (Nat.le_of_ble_eq_true rfl) ?_
  show x_seq _ _ _ _ ([.inr (.inr (8, 1)), .inl x1, .inl v1, .inl v3], [], mh h F)
  refine q_goto ?_
  have lp5 : ∀ (m6 : Nat) (ylp5_2 : Int32) (ylp5_3 : Int32), (-1 ≤ ylp5_2.toInt ∧ ylp5_2.toInt ≤ 2) → (-1 ≤ ylp5_3.toInt ∧ ylp5_3.toInt ≤ 2) → (0 ≤ ylp5_2.toInt → ∀ j : Nat, (j : Int) = 3 * x1.toInt + ylp5_2.toInt → (F 38 j).toInt < 0) → (ylp5_2.toInt < 0 → ∀ j : Nat, 3 * x1.toInt + ylp5_3.toInt < j → (j : Int) ≤ 3 * x1.toInt + 2 → 0 ≤ (F 38 j).toInt) → (ylp5_3.toInt + 1).toNat < m6 → xR (10 + 8 * m6) 107 4 ([.inr (.inr (8, 1)), .inl x1, .inl ylp5_2, .inl ylp5_3], [], mh h F) Z := by
    intro m6
    induction m6 with
    | zero => intro ylp5_2 ylp5_3 klp5_0 klp5_1 klp5_2 klp5_3 kmlp5; exact absurd kmlp5 (by omega)
    | succ m6 ih7 =>
      intro ylp5_2 ylp5_3 klp5_0 klp5_1 klp5_2 klp5_3 kmlp5
      rw [show 10 + 8 * (m6 + 1) = 10 + 8 * m6 + 8 by omega]
      refine xR.blk c107_4 ?_
      refine q_iload rfl ?_
      refine v_if_lt (fun d8 => ?_) (fun d8 => ?_)
      · skip
        refine xR.blk c107_33 ?_
        refine q_iload rfl ?_
        exact q_iret (hZ _ _ ⟨rfl, ⟨_, rfl, klp5_0, klp5_2, fun hz j h1 h2 => klp5_3 hz j (by omega) h2⟩⟩)
      · skip
        refine q_aload rfl (by decide) ?_
        refine m_gfr S (n := 9) (by decide) ?_
        refine v_iconst (k := 3) rfl (fun v9 e10 => ?_)
        refine q_iload rfl ?_
        refine v_imul' e10 (by omega) (fun v11 e12 => ?_)
        refine q_iload rfl ?_
        refine v_iadd (by omega) (fun v13 e14 => ?_)
        refine m_ald (k := 19) (n := 9) S (by decide) (by omega) (by omega) ?_
        have hI : ∀ j : Nat, (j : Int) = 3 * x1.toInt + ylp5_3.toInt → F 38 j = (F 38 v13.toNatClampNeg) := fun j hj => congrArg (F 38) (by have c9 := x_clamp (n := v13) (by omega); omega)
        refine v_if_ge (fun d15 => ?_) (fun d15 => ?_)
        · skip
          refine xR.blk c107_25 ?_
          refine q_iload rfl ?_
          refine q_goto ?_
          refine xR.blk c107_26 ?_
          refine q_istore (Nat.le_of_ble_eq_true rfl) ?_
          show x_seq _ _ _ _ ([.inr (.inr (8, 1)), .inl x1, .inl ylp5_2, .inl ylp5_3], [], mh h F)
          refine v_iinc (k := -1) rfl rfl (by omega) (by omega) (fun v16 e17 => ?_)
          show x_seq _ _ _ _ ([.inr (.inr (8, 1)), .inl x1, .inl ylp5_2, .inl v16], [], mh h F)
          refine q_goto ?_
          exact (ih7 ylp5_2 v16 (by omega) (by omega) (fun hz j hj => by first | (rw [hI j (by omega)]; omega) | exact klp5_2 (by omega) j (by omega)) (fun hz j h1 h2 => by first | (exfalso; omega) | (rcases (show (j : Int) = 3 * x1.toInt + ylp5_3.toInt ∨ 3 * x1.toInt + ylp5_3.toInt < j by omega) with q9 | q9 <;> first | (rw [hI j q9]; omega) | exact klp5_3 (by omega) j q9 h2)) (by omega)).up (by omega)
        · skip
          refine q_iload rfl ?_
          refine q_goto ?_
          refine xR.blk c107_26 ?_
          refine q_istore (Nat.le_of_ble_eq_true rfl) ?_
          show x_seq _ _ _ _ ([.inr (.inr (8, 1)), .inl x1, .inl ylp5_3, .inl ylp5_3], [], mh h F)
          refine v_iinc (k := -1) rfl rfl (by omega) (by omega) (fun v18 e19 => ?_)
          show x_seq _ _ _ _ ([.inr (.inr (8, 1)), .inl x1, .inl ylp5_3, .inl v18], [], mh h F)
          refine q_goto ?_
          exact (ih7 ylp5_3 v18 (by omega) (by omega) (fun hz j hj => by first | (rw [hI j (by omega)]; omega) | exact klp5_2 (by omega) j (by omega)) (fun hz j h1 h2 => by first | (exfalso; omega) | (rcases (show (j : Int) = 3 * x1.toInt + ylp5_3.toInt ∨ 3 * x1.toInt + ylp5_3.toInt < j by omega) with q9 | q9 <;> first | (rw [hI j q9]; omega) | exact klp5_3 (by omega) j q9 h2)) (by omega)).up (by omega)
  exact (lp5 4 v1 v3 (by omega) (by omega) (fun hz => by exfalso; omega) (fun hz j h1 h2 => by exfalso; omega) (by omega)).up (by omega)
theorem tv108 {h : xH} {Z : xO → xH → Prop} {F : xF} {x1 : Int32} (S : MS h) (g1 : 0 ≤ x1.toInt ∧ x1.toInt ≤ 2) (hZ : ∀ (o : xO) (F' : xF), F' = F ∧ (∃ v : Int32, o = .inl (some (.inl v)) ∧ ((0 ≤ v.toInt ∧ v.toInt ≤ 1) ∧ (v.toInt = 1 → ∃ i : Nat, 24 * x1.toInt ≤ i ∧ (i : Int) < 24 * x1.toInt + 24 ∧ 0 ≤ (F 24 i).toInt))) → Z o (mh h F')) : xC 400 108 [.inr (.inr (8, 1)), .inl x1] (mh h F) Z := by
  refine ⟨rfl, S.2.2.1, S.2.2.2, ?_⟩
  show xR _ 108 0 ([.inr (.inr (8, 1)), .inl x1, .inr (.inr (0, 0)), .inr (.inr (0, 0))], [], mh h F) Z
  refine xR.blk c108_0 ?_
  refine v_iconst (k := 0) rfl (fun v1 e2 => ?_)
  refine q_istore (Nat.le_of_ble_eq_true rfl) ?_
  show x_seq _ _ _ _ ([.inr (.inr (8, 1)), .inl x1, .inl v1, .inr (.inr (0, 0))], [], mh h F)
  refine v_iconst (k := 24) rfl (fun v3 e4 => ?_)
  refine q_iload rfl ?_
  refine v_imul' e4 (by omega) (fun v5 e6 => ?_)
  refine q_istore (Nat.le_of_ble_eq_true rfl) ?_
  show x_seq _ _ _ _ ([.inr (.inr (8, 1)), .inl x1, .inl v1, .inl v5], [], mh h F)
  refine q_goto ?_
  have lp7 : ∀ (m8 : Nat) (ylp7_2 : Int32) (ylp7_3 : Int32), (0 ≤ ylp7_2.toInt ∧ ylp7_2.toInt ≤ 1) → (24 * x1.toInt ≤ ylp7_3.toInt ∧ ylp7_3.toInt ≤ 24 * x1.toInt + 24) → (ylp7_2.toInt = 1 → ∃ i : Nat, 24 * x1.toInt ≤ i ∧ (i : Int) < 24 * x1.toInt + 24 ∧ 0 ≤ (F 24 i).toInt) → (24 * x1.toInt + 24 - ylp7_3.toInt).toNat < m8 → xR (10 + 10 * m8) 108 7 ([.inr (.inr (8, 1)), .inl x1, .inl ylp7_2, .inl ylp7_3], [], mh h F) Z := by
    intro m8
    induction m8 with
    | zero => intro ylp7_2 ylp7_3 klp7_0 klp7_1 klp7_2 kmlp7; exact absurd kmlp7 (by omega)
    | succ m8 ih9 =>
      intro ylp7_2 ylp7_3 klp7_0 klp7_1 klp7_2 kmlp7
      rw [show 10 + 10 * (m8 + 1) = 10 + 10 * m8 + 10 by omega]
      refine xR.blk c108_7 ?_
      refine q_iload rfl ?_
      refine v_iconst (k := 24) rfl (fun v10 e11 => ?_)
      refine q_iload rfl ?_
      refine v_imul' e11 (by omega) (fun v12 e13 => ?_)
      refine v_iconst (k := 24) rfl (fun v14 e15 => ?_)
      refine v_iadd (by omega) (fun v16 e17 => ?_)
      refine v_icmp_ge (fun d18 => ?_) (fun d18 => ?_)
      · skip
        refine xR.blk c108_43 ?_
        refine q_iload rfl ?_
        exact q_zret (i32_01 (by omega)) (hZ _ _ ⟨rfl, ⟨_, rfl, klp7_0, klp7_2⟩⟩)
      · skip
        refine q_iload rfl ?_
        refine v_if_ne (fun d19 => ?_) (fun d19 => ?_)
        · skip
          refine xR.blk c108_31 ?_
          refine v_iconst (k := 1) rfl (fun v20 e21 => ?_)
          refine q_goto ?_
          refine xR.blk c108_36 ?_
          refine q_istore (Nat.le_of_ble_eq_true rfl) ?_
          show x_seq _ _ _ _ ([.inr (.inr (8, 1)), .inl x1, .inl v20, .inl ylp7_3], [], mh h F)
          refine v_iinc (k := 1) rfl rfl (by omega) (by omega) (fun v22 e23 => ?_)
          show x_seq _ _ _ _ ([.inr (.inr (8, 1)), .inl x1, .inl v20, .inl v22], [], mh h F)
          refine q_goto ?_
          exact (ih9 v20 v22 (by omega) (by omega) (fun hz => by first | (exfalso; omega) | exact klp7_2 (by omega) | exact ⟨ylp7_3.toNatClampNeg, by have c9 := x_clamp (n := ylp7_3) (by omega); omega, by have c9 := x_clamp (n := ylp7_3) (by omega); omega, by omega⟩) (by omega)).up (by omega)
        · skip
          refine q_aload rfl (by decide) ?_
          refine m_gfr S (n := 72) (by decide) ?_
          refine q_iload rfl ?_
          refine m_ald (k := 5) (n := 72) S (by decide) (by omega) (by omega) ?_
          refine v_if_lt (fun d24 => ?_) (fun d24 => ?_)
          · skip
            refine xR.blk c108_35 ?_
            refine v_iconst (k := 0) rfl (fun v25 e26 => ?_)
            refine q_goto ?_
            refine xR.blk c108_36 ?_
            refine q_istore (Nat.le_of_ble_eq_true rfl) ?_
            show x_seq _ _ _ _ ([.inr (.inr (8, 1)), .inl x1, .inl v25, .inl ylp7_3], [], mh h F)
            refine v_iinc (k := 1) rfl rfl (by omega) (by omega) (fun v27 e28 => ?_)
            show x_seq _ _ _ _ ([.inr (.inr (8, 1)), .inl x1, .inl v25, .inl v27], [], mh h F)
            refine q_goto ?_
            exact (ih9 v25 v27 (by omega) (by omega) (fun hz => by first | (exfalso; omega) | exact klp7_2 (by omega) | exact ⟨ylp7_3.toNatClampNeg, by have c9 := x_clamp (n := ylp7_3) (by omega); omega, by have c9 := x_clamp (n := ylp7_3) (by omega); omega, by omega⟩) (by omega)).up (by omega)
          · skip
            refine q_goto ?_
            refine xR.blk c108_31 ?_
            refine v_iconst (k := 1) rfl (fun v29 e30 => ?_)
            refine q_goto ?_
            refine xR.blk c108_36 ?_
            refine q_istore (Nat.le_of_ble_eq_true rfl) ?_
            show x_seq _ _ _ _ ([.inr (.inr (8, 1)), .inl x1, .inl v29, .inl ylp7_3], [], mh h F)
            refine v_iinc (k := 1) rfl rfl (by omega) (by omega) (fun v31 e32 => ?_)
            show x_seq _ _ _ _ ([.inr (.inr (8, 1)), .inl x1, .inl v29, .inl v31], [], mh h F)
            refine q_goto ?_
            exact (ih9 v29 v31 (by omega) (by omega) (fun hz => by first | (exfalso; omega) | exact klp7_2 (by omega) | exact ⟨ylp7_3.toNatClampNeg, by have c9 := x_clamp (n := ylp7_3) (by omega); omega, by have c9 := x_clamp (n := ylp7_3) (by omega); omega, by omega⟩) (by omega)).up (by omega)
  exact (lp7 25 v1 v5 (by omega) (by omega) (fun hz => by exfalso; omega) (by omega)).up (by omega)
theorem tv116 {h : xH} {Z : xO → xH → Prop} {F : xF} {x1 : Int32} (S : MS h) (g1 : 0 ≤ x1.toInt ∧ x1.toInt ≤ 71) (hZ : ∀ (o : xO) (F' : xF), F' = F ∧ (∃ v : Int32, o = .inl (some (.inl v)) ∧ (0 ≤ v.toInt ∧ v.toInt ≤ 1)) → Z o (mh h F')) : xC 20 116 [.inr (.inr (8, 1)), .inl x1] (mh h F) Z := by
  refine ⟨rfl, S.2.2.1, S.2.2.2, ?_⟩
  show xR _ 116 0 ([.inr (.inr (8, 1)), .inl x1], [], mh h F) Z
  refine xR.blk c116_0 ?_
  refine q_aload rfl (by decide) ?_
  refine m_gfr S (n := 72) (by decide) ?_
  refine q_iload rfl ?_
  refine m_ald (k := 3) (n := 72) S (by decide) (by omega) (by omega) ?_
  refine v_if_ne (fun d1 => ?_) (fun d1 => ?_)
  · skip
    refine xR.blk c116_31 ?_
    refine v_iconst (k := 0) rfl (fun v2 e3 => ?_)
    refine q_goto ?_
    refine xR.blk c116_32 ?_
    exact q_zret (i32_01 (by omega)) (hZ _ _ ⟨rfl, ⟨_, rfl, by omega⟩⟩)
  · skip
    refine q_aload rfl (by decide) ?_
    refine m_gfr S (n := 72) (by decide) ?_
    refine q_iload rfl ?_
    refine m_ald (k := 9) (n := 72) S (by decide) (by omega) (by omega) ?_
    refine v_if_ge (fun d4 => ?_) (fun d4 => ?_)
    · skip
      refine xR.blk c116_31 ?_
      refine v_iconst (k := 0) rfl (fun v5 e6 => ?_)
      refine q_goto ?_
      refine xR.blk c116_32 ?_
      exact q_zret (i32_01 (by omega)) (hZ _ _ ⟨rfl, ⟨_, rfl, by omega⟩⟩)
    · skip
      refine q_aload rfl (by decide) ?_
      refine m_gfr S (n := 72) (by decide) ?_
      refine q_iload rfl ?_
      refine m_ald (k := 29) (n := 72) S (by decide) (by omega) (by omega) ?_
      refine v_if_ne (fun d7 => ?_) (fun d7 => ?_)
      · skip
        refine xR.blk c116_31 ?_
        refine v_iconst (k := 0) rfl (fun v8 e9 => ?_)
        refine q_goto ?_
        refine xR.blk c116_32 ?_
        exact q_zret (i32_01 (by omega)) (hZ _ _ ⟨rfl, ⟨_, rfl, by omega⟩⟩)
      · skip
        refine v_iconst (k := 1) rfl (fun v10 e11 => ?_)
        refine q_goto ?_
        refine xR.blk c116_32 ?_
        exact q_zret (i32_01 (by omega)) (hZ _ _ ⟨rfl, ⟨_, rfl, by omega⟩⟩)
theorem tv117 {h : xH} {Z : xO → xH → Prop} {F : xF} {e : Nat} {x1 : Int32} {x2 : Int32} (S : MS h) (g1 : 0 ≤ x1.toInt ∧ x1.toInt ≤ 2) (g2 : 0 ≤ x2.toInt ∧ x2.toInt ≤ 23) (M : MX e F) (hZ : ∀ (o : xO) (F' : xF), F' = F ∧ (∃ v : Int32, o = .inl (some (.inl v)) ∧ (0 ≤ v.toInt ∧ v.toInt ≤ 23)) → Z o (mh h F')) : xC 1000 117 [.inr (.inr (8, 1)), .inl x1, .inl x2] (mh h F) Z := by
  refine ⟨rfl, S.2.2.1, S.2.2.2, ?_⟩
  show xR _ 117 0 ([.inr (.inr (8, 1)), .inl x1, .inl x2, .inr (.inr (0, 0)), .inr (.inr (0, 0))], [], mh h F) Z
  refine xR.blk c117_0 ?_
  refine v_iconst (k := 4) rfl (fun v1 e2 => ?_)
  refine q_iload rfl ?_
  refine v_imul' e2 (by omega) (fun v3 e4 => ?_)
  refine q_istore (Nat.le_of_ble_eq_true rfl) ?_
  show x_seq _ _ _ _ ([.inr (.inr (8, 1)), .inl x1, .inl x2, .inl v3, .inr (.inr (0, 0))], [], mh h F)
  refine q_goto ?_
  have lp5 : ∀ (m6 : Nat) (ylp5_3 : Int32) (zlp5_4 : xV), (4 * x1.toInt ≤ ylp5_3.toInt ∧ ylp5_3.toInt ≤ 4 * x1.toInt + 4) → (4 * x1.toInt + 4 - ylp5_3.toInt).toNat < m6 → xR (30 + 100 * m6) 117 4 ([.inr (.inr (8, 1)), .inl x1, .inl x2, .inl ylp5_3, zlp5_4], [], mh h F) Z := by
    intro m6
    induction m6 with
    | zero => intro ylp5_3 zlp5_4 klp5_0 kmlp5; exact absurd kmlp5 (by omega)
    | succ m6 ih7 =>
      intro ylp5_3 zlp5_4 klp5_0 kmlp5
      rw [show 30 + 100 * (m6 + 1) = 30 + 100 * m6 + 100 by omega]
      refine xR.blk c117_4 ?_
      refine q_iload rfl ?_
      refine v_iconst (k := 4) rfl (fun v8 e9 => ?_)
      refine q_iload rfl ?_
      refine v_imul' e9 (by omega) (fun v10 e11 => ?_)
      refine v_iconst (k := 4) rfl (fun v12 e13 => ?_)
      refine v_iadd (by omega) (fun v14 e15 => ?_)
      refine v_icmp_ge (fun d16 => ?_) (fun d16 => ?_)
      · skip
        refine xR.blk c117_98 ?_
        refine q_iload rfl ?_
        exact q_iret (hZ _ _ ⟨rfl, ⟨_, rfl, by omega⟩⟩)
      · skip
        refine q_aload rfl (by decide) ?_
        refine m_gfr S (n := 12) (by decide) ?_
        refine q_iload rfl ?_
        refine m_ald (k := 7) (n := 12) S (by decide) (by omega) (by omega) ?_
        have e17 : 0 ≤ (F 26 ylp5_3.toNatClampNeg).toInt ∧ (F 26 ylp5_3.toNatClampNeg).toInt ≤ 6 := M.rg (lo := 0) (hi := 6) (by decide) _
        refine v_if_le (fun d18 => ?_) (fun d18 => ?_)
        · skip
          refine xR.blk c117_92 ?_
          refine v_iinc (k := 1) rfl rfl (by omega) (by omega) (fun v19 e20 => ?_)
          show x_seq _ _ _ _ ([.inr (.inr (8, 1)), .inl x1, .inl x2, .inl v19, zlp5_4], [], mh h F)
          refine q_goto ?_
          exact (ih7 v19 (zlp5_4) (by omega) (by omega)).up (by omega)
        · skip
          refine q_aload rfl (by decide) ?_
          refine m_gfr S (n := 72) (by decide) ?_
          refine v_iconst (k := 6) rfl (fun v21 e22 => ?_)
          refine q_iload rfl ?_
          refine v_imul' e22 (by omega) (fun v23 e24 => ?_)
          refine m_ald (k := 8) (n := 72) S (by decide) (by omega) (by omega) ?_
          have e25 : 0 ≤ (F 27 v23.toNatClampNeg).toInt ∧ (F 27 v23.toNatClampNeg).toInt ≤ 23 := M.rg (lo := 0) (hi := 23) (by decide) _
          refine q_iload rfl ?_
          refine v_icmp_ne (fun d26 => ?_) (fun d26 => ?_)
          · skip
            refine xR.blk c117_92 ?_
            refine v_iinc (k := 1) rfl rfl (by omega) (by omega) (fun v27 e28 => ?_)
            show x_seq _ _ _ _ ([.inr (.inr (8, 1)), .inl x1, .inl x2, .inl v27, zlp5_4], [], mh h F)
            refine q_goto ?_
            exact (ih7 v27 (zlp5_4) (by omega) (by omega)).up (by omega)
          · skip
            refine v_iconst (k := 0) rfl (fun v29 e30 => ?_)
            refine q_istore (Nat.le_of_ble_eq_true rfl) ?_
            show x_seq _ _ _ _ ([.inr (.inr (8, 1)), .inl x1, .inl x2, .inl ylp5_3, .inl v29], [], mh h F)
            refine q_goto ?_
            have lp31 : ∀ (m32 : Nat) (ylp31_4 : Int32), (0 ≤ ylp31_4.toInt ∧ ylp31_4.toInt ≤ 6) → (6 - ylp31_4.toInt).toNat < m32 → xR (30 + 100 * m6 + 25 + 6 * m32) 117 38 ([.inr (.inr (8, 1)), .inl x1, .inl x2, .inl ylp5_3, .inl ylp31_4], [], mh h F) Z := by
              intro m32
              induction m32 with
              | zero => intro ylp31_4 klp31_0 kmlp31; exact absurd kmlp31 (by omega)
              | succ m32 ih33 =>
                intro ylp31_4 klp31_0 kmlp31
                rw [show 30 + 100 * m6 + 25 + 6 * (m32 + 1) = 30 + 100 * m6 + 25 + 6 * m32 + 6 by omega]
                refine xR.blk c117_38 ?_
                refine q_iload rfl ?_
                refine q_aload rfl (by decide) ?_
                refine m_gfr S (n := 12) (by decide) ?_
                refine q_iload rfl ?_
                refine m_ald (k := 7) (n := 12) S (by decide) (by omega) (by omega) ?_
                have e34 : 0 ≤ (F 26 ylp5_3.toNatClampNeg).toInt ∧ (F 26 ylp5_3.toNatClampNeg).toInt ≤ 6 := M.rg (lo := 0) (hi := 6) (by decide) _
                refine v_icmp_ge (fun d35 => ?_) (fun d35 => ?_)
                · skip
                  refine xR.blk c117_92 ?_
                  refine v_iinc (k := 1) rfl rfl (by omega) (by omega) (fun v36 e37 => ?_)
                  show x_seq _ _ _ _ ([.inr (.inr (8, 1)), .inl x1, .inl x2, .inl v36, .inl ylp31_4], [], mh h F)
                  refine q_goto ?_
                  exact (ih7 v36 (.inl ylp31_4) (by omega) (by omega)).up (by omega)
                · skip
                  refine q_aload rfl (by decide) ?_
                  refine v_iconst (k := 24) rfl (fun v38 e39 => ?_)
                  refine q_iload rfl ?_
                  refine v_imul' e39 (by omega) (fun v40 e41 => ?_)
                  refine q_aload rfl (by decide) ?_
                  refine m_gfr S (n := 72) (by decide) ?_
                  refine v_iconst (k := 6) rfl (fun v42 e43 => ?_)
                  refine q_iload rfl ?_
                  refine v_imul' e43 (by omega) (fun v44 e45 => ?_)
                  refine q_iload rfl ?_
                  refine v_iadd (by omega) (fun v46 e47 => ?_)
                  refine m_ald (k := 8) (n := 72) S (by decide) (by omega) (by omega) ?_
                  have e48 : 0 ≤ (F 27 v46.toNatClampNeg).toInt ∧ (F 27 v46.toNatClampNeg).toInt ≤ 23 := M.rg (lo := 0) (hi := 23) (by decide) _
                  refine v_iadd (by omega) (fun v49 e50 => ?_)
                  refine q_callv (j := 1) rfl (by decide) ⟨Nat.le_refl 1, Nat.le_of_eq S.1.symm⟩ (Nat.le_of_ble_eq_true rfl) (Nat.le_of_ble_eq_true rfl) (by show x_ce h + 0 ≤ 0; rw [S.2.2.1]; exact Nat.le_refl 0) (by show x_so h + 0 ≤ 0; rw [S.2.2.2]; exact Nat.le_refl 0) ?_
                  refine xC.up (tv116 (h := x_setc h 0 0) (F := F) (x1 := v49) S.set (by omega) (fun o51 F52 hp => ?_)) (by omega)
                  obtain ⟨hF55, ⟨v54, rfl, q53⟩⟩ := hp
                  rw [hF55]
                  show x_seq _ _ _ _ ([.inr (.inr (8, 1)), .inl x1, .inl x2, .inl ylp5_3, .inl ylp31_4], [.inl v54], mh h F)
                  refine v_if_eq (fun d56 => ?_) (fun d56 => ?_)
                  · skip
                    refine xR.blk c117_86 ?_
                    refine v_iinc (k := 1) rfl rfl (by omega) (by omega) (fun v57 e58 => ?_)
                    show x_seq _ _ _ _ ([.inr (.inr (8, 1)), .inl x1, .inl x2, .inl ylp5_3, .inl v57], [], mh h F)
                    refine q_goto ?_
                    exact (ih33 v57 (by omega) (by omega)).up (by omega)
                  · skip
                    refine q_aload rfl (by decide) ?_
                    refine m_gfr S (n := 72) (by decide) ?_
                    refine v_iconst (k := 6) rfl (fun v59 e60 => ?_)
                    refine q_iload rfl ?_
                    refine v_imul' e60 (by omega) (fun v61 e62 => ?_)
                    refine q_iload rfl ?_
                    refine v_iadd (by omega) (fun v63 e64 => ?_)
                    refine m_ald (k := 8) (n := 72) S (by decide) (by omega) (by omega) ?_
                    have e65 : 0 ≤ (F 27 v63.toNatClampNeg).toInt ∧ (F 27 v63.toNatClampNeg).toInt ≤ 23 := M.rg (lo := 0) (hi := 23) (by decide) _
                    exact q_iret (hZ _ _ ⟨rfl, ⟨_, rfl, by omega⟩⟩)
            exact (lp31 7 v29 (by omega) (by omega)).up (by omega)
  exact (lp5 5 v3 (.inr (.inr (0, 0))) (by omega) (by omega)).up (by omega)
theorem tv118 {h : xH} {Z : xO → xH → Prop} {F : xF} {x0 : Int32} {x1 : Int32} {x2 : Int32} (S : MS h) (g0 : 0 ≤ x0.toInt ∧ x0.toInt ≤ 2) (g1 : 0 ≤ x1.toInt ∧ x1.toInt ≤ 2) (g2 : 0 ≤ x2.toInt ∧ x2.toInt ≤ 3) (hZ : ∀ (o : xO) (F' : xF), F' = F ∧ (∃ v : Int32, o = .inl (some (.inl v)) ∧ (v.toInt = 12 * x0.toInt + 4 * x1.toInt + x2.toInt)) → Z o (mh h F')) : xC 10 118 [.inl x0, .inl x1, .inl x2] (mh h F) Z := by
  refine ⟨rfl, S.2.2.1, S.2.2.2, ?_⟩
  show xR _ 118 0 ([.inl x0, .inl x1, .inl x2], [], mh h F) Z
  refine xR.blk c118_0 ?_
  refine v_iconst (k := 12) rfl (fun v1 e2 => ?_)
  refine q_iload rfl ?_
  refine v_imul' e2 (by omega) (fun v3 e4 => ?_)
  refine v_iconst (k := 4) rfl (fun v5 e6 => ?_)
  refine q_iload rfl ?_
  refine v_imul' e6 (by omega) (fun v7 e8 => ?_)
  refine v_iadd (by omega) (fun v9 e10 => ?_)
  refine q_iload rfl ?_
  refine v_iadd (by omega) (fun v11 e12 => ?_)
  exact q_iret (hZ _ _ ⟨rfl, ⟨_, rfl, by omega⟩⟩)
theorem tv120 {h : xH} {Z : xO → xH → Prop} {F : xF} {x1 : Int32} (S : MS h) (g1 : 0 ≤ x1.toInt ∧ x1.toInt ≤ 2) (hZ : ∀ (o : xO) (F' : xF), F' = F ∧ (∃ v : Int32, o = .inl (some (.inl v)) ∧ (-1 ≤ v.toInt ∧ v.toInt ≤ 4)) → Z o (mh h F')) : xC 100 120 [.inr (.inr (8, 1)), .inl x1] (mh h F) Z := by
  refine ⟨rfl, S.2.2.1, S.2.2.2, ?_⟩
  show xR _ 120 0 ([.inr (.inr (8, 1)), .inl x1, .inr (.inr (0, 0)), .inr (.inr (0, 0))], [], mh h F) Z
  refine xR.blk c120_0 ?_
  refine v_iconst (k := -1) rfl (fun v1 e2 => ?_)
  refine q_istore (Nat.le_of_ble_eq_true rfl) ?_
  show x_seq _ _ _ _ ([.inr (.inr (8, 1)), .inl x1, .inl v1, .inr (.inr (0, 0))], [], mh h F)
  refine v_iconst (k := 4) rfl (fun v3 e4 => ?_)
  refine q_istore (Nat.le_of_ble_eq_true rfl) ?_
  show x_seq _ _ _ _ ([.inr (.inr (8, 1)), .inl x1, .inl v1, .inl v3], [], mh h F)
  refine q_goto ?_
  have lp5 : ∀ (m6 : Nat) (ylp5_2 : Int32) (ylp5_3 : Int32), (-1 ≤ ylp5_2.toInt ∧ ylp5_2.toInt ≤ 4) → (-1 ≤ ylp5_3.toInt ∧ ylp5_3.toInt ≤ 4) → (ylp5_3.toInt + 1).toNat < m6 → xR (10 + 8 * m6) 120 4 ([.inr (.inr (8, 1)), .inl x1, .inl ylp5_2, .inl ylp5_3], [], mh h F) Z := by
    intro m6
    induction m6 with
    | zero => intro ylp5_2 ylp5_3 klp5_0 klp5_1 kmlp5; exact absurd kmlp5 (by omega)
    | succ m6 ih7 =>
      intro ylp5_2 ylp5_3 klp5_0 klp5_1 kmlp5
      rw [show 10 + 8 * (m6 + 1) = 10 + 8 * m6 + 8 by omega]
      refine xR.blk c120_4 ?_
      refine q_iload rfl ?_
      refine v_if_lt (fun d8 => ?_) (fun d8 => ?_)
      · skip
        refine xR.blk c120_33 ?_
        refine q_iload rfl ?_
        exact q_iret (hZ _ _ ⟨rfl, ⟨_, rfl, by omega⟩⟩)
      · skip
        refine q_aload rfl (by decide) ?_
        refine m_gfr S (n := 15) (by decide) ?_
        refine v_iconst (k := 5) rfl (fun v9 e10 => ?_)
        refine q_iload rfl ?_
        refine v_imul' e10 (by omega) (fun v11 e12 => ?_)
        refine q_iload rfl ?_
        refine v_iadd (by omega) (fun v13 e14 => ?_)
        refine m_ald (k := 18) (n := 15) S (by decide) (by omega) (by omega) ?_
        refine v_if_ge (fun d15 => ?_) (fun d15 => ?_)
        · skip
          refine xR.blk c120_25 ?_
          refine q_iload rfl ?_
          refine q_goto ?_
          refine xR.blk c120_26 ?_
          refine q_istore (Nat.le_of_ble_eq_true rfl) ?_
          show x_seq _ _ _ _ ([.inr (.inr (8, 1)), .inl x1, .inl ylp5_2, .inl ylp5_3], [], mh h F)
          refine v_iinc (k := -1) rfl rfl (by omega) (by omega) (fun v16 e17 => ?_)
          show x_seq _ _ _ _ ([.inr (.inr (8, 1)), .inl x1, .inl ylp5_2, .inl v16], [], mh h F)
          refine q_goto ?_
          exact (ih7 ylp5_2 v16 (by omega) (by omega) (by omega)).up (by omega)
        · skip
          refine q_iload rfl ?_
          refine q_goto ?_
          refine xR.blk c120_26 ?_
          refine q_istore (Nat.le_of_ble_eq_true rfl) ?_
          show x_seq _ _ _ _ ([.inr (.inr (8, 1)), .inl x1, .inl ylp5_3, .inl ylp5_3], [], mh h F)
          refine v_iinc (k := -1) rfl rfl (by omega) (by omega) (fun v18 e19 => ?_)
          show x_seq _ _ _ _ ([.inr (.inr (8, 1)), .inl x1, .inl ylp5_3, .inl v18], [], mh h F)
          refine q_goto ?_
          exact (ih7 ylp5_3 v18 (by omega) (by omega) (by omega)).up (by omega)
  exact (lp5 6 v1 v3 (by omega) (by omega) (by omega)).up (by omega)
theorem tv122 {h : xH} {Z : xO → xH → Prop} {F : xF} {e : Nat} {x1 : Int32} {x2 : Int32} (S : MS h) (M : MX e F) (hZ : ∀ (o : xO) (F' : xF), F' = F ∧ (∃ v : Int32, o = .inl (some (.inl v)) ∧ (-1 ≤ v.toInt ∧ v.toInt ≤ 15)) → Z o (mh h F')) : xC 400 122 [.inr (.inr (8, 1)), .inl x1, .inl x2] (mh h F) Z := by
  refine ⟨rfl, S.2.2.1, S.2.2.2, ?_⟩
  show xR _ 122 0 ([.inr (.inr (8, 1)), .inl x1, .inl x2, .inr (.inr (0, 0)), .inr (.inr (0, 0)), .inr (.inr (0, 0))], [], mh h F) Z
  refine xR.blk c122_0 ?_
  refine v_iconst (k := -1) rfl (fun v1 e2 => ?_)
  refine q_istore (Nat.le_of_ble_eq_true rfl) ?_
  show x_seq _ _ _ _ ([.inr (.inr (8, 1)), .inl x1, .inl x2, .inl v1, .inr (.inr (0, 0)), .inr (.inr (0, 0))], [], mh h F)
  refine q_aload rfl (by decide) ?_
  refine m_gfi S ?_
  have e3 : 0 ≤ (F 8 20).toInt ∧ (F 8 20).toInt ≤ 16 := M.fl (lo := 0) (hi := 16) (by decide)
  refine v_iconst (k := 1) rfl (fun v4 e5 => ?_)
  refine v_isub (by omega) (fun v6 e7 => ?_)
  refine q_istore (Nat.le_of_ble_eq_true rfl) ?_
  show x_seq _ _ _ _ ([.inr (.inr (8, 1)), .inl x1, .inl x2, .inl v1, .inl v6, .inr (.inr (0, 0))], [], mh h F)
  refine q_goto ?_
  have lp8 : ∀ (m9 : Nat) (ylp8_3 : Int32) (ylp8_4 : Int32) (zlp8_5 : xV), (-1 ≤ ylp8_3.toInt ∧ ylp8_3.toInt ≤ 15) → (-1 ≤ ylp8_4.toInt ∧ ylp8_4.toInt ≤ 15) → (ylp8_4.toInt + 1).toNat < m9 → xR (10 + 20 * m9) 122 10 ([.inr (.inr (8, 1)), .inl x1, .inl x2, .inl ylp8_3, .inl ylp8_4, zlp8_5], [], mh h F) Z := by
    intro m9
    induction m9 with
    | zero => intro ylp8_3 ylp8_4 zlp8_5 klp8_0 klp8_1 kmlp8; exact absurd kmlp8 (by omega)
    | succ m9 ih10 =>
      intro ylp8_3 ylp8_4 zlp8_5 klp8_0 klp8_1 kmlp8
      rw [show 10 + 20 * (m9 + 1) = 10 + 20 * m9 + 20 by omega]
      have jn11 : ∀ (yjn11_5 : Int32) (sjn11_0 : Int32), (-1 ≤ sjn11_0.toInt ∧ sjn11_0.toInt ≤ 15) → (0 ≤ ylp8_4.toInt) → xR (10 + 20 * m9 + 5) 122 97 ([.inr (.inr (8, 1)), .inl x1, .inl x2, .inl ylp8_3, .inl ylp8_4, .inl yjn11_5], [.inl sjn11_0], mh h F) Z := by
        intro yjn11_5 sjn11_0 kjn11_0 kjn11_1
        refine xR.blk c122_97 ?_
        refine q_istore (Nat.le_of_ble_eq_true rfl) ?_
        show x_seq _ _ _ _ ([.inr (.inr (8, 1)), .inl x1, .inl x2, .inl sjn11_0, .inl ylp8_4, .inl yjn11_5], [], mh h F)
        refine v_iinc (k := -1) rfl rfl (by omega) (by omega) (fun v14 e15 => ?_)
        show x_seq _ _ _ _ ([.inr (.inr (8, 1)), .inl x1, .inl x2, .inl sjn11_0, .inl v14, .inl yjn11_5], [], mh h F)
        refine q_goto ?_
        exact (ih10 sjn11_0 v14 (.inl yjn11_5) (by omega) (by omega) (by omega)).up (by omega)
      have jn16 : ∀ (sjn16_0 : Int32), (0 ≤ ylp8_4.toInt) → xR (10 + 20 * m9 + 10) 122 64 ([.inr (.inr (8, 1)), .inl x1, .inl x2, .inl ylp8_3, .inl ylp8_4, zlp8_5], [.inl sjn16_0], mh h F) Z := by
        intro sjn16_0 kjn16_0
        refine xR.blk c122_64 ?_
        refine q_istore (Nat.le_of_ble_eq_true rfl) ?_
        show x_seq _ _ _ _ ([.inr (.inr (8, 1)), .inl x1, .inl x2, .inl ylp8_3, .inl ylp8_4, .inl sjn16_0], [], mh h F)
        refine q_iload rfl ?_
        refine v_if_eq (fun d19 => ?_) (fun d19 => ?_)
        · skip
          refine xR.blk c122_96 ?_
          refine q_iload rfl ?_
          refine q_goto ?_
          exact (jn11 sjn16_0 ylp8_3 (by omega) (by omega)).up (by omega)
        · skip
          refine q_aload rfl (by decide) ?_
          refine m_gfr S (n := 16) (by decide) ?_
          refine q_iload rfl ?_
          refine m_ald (k := 23) (n := 16) S (by decide) (by omega) (by omega) ?_
          have e20 : -1 ≤ (F 41 ylp8_4.toNatClampNeg).toInt ∧ (F 41 ylp8_4.toNatClampNeg).toInt ≤ 71 := M.rg (lo := -1) (hi := 71) (by decide) _
          refine v_if_ge (fun d21 => ?_) (fun d21 => ?_)
          · skip
            refine xR.blk c122_96 ?_
            refine q_iload rfl ?_
            refine q_goto ?_
            exact (jn11 sjn16_0 ylp8_3 (by omega) (by omega)).up (by omega)
          · skip
            refine q_aload rfl (by decide) ?_
            refine m_gfr S (n := 16) (by decide) ?_
            refine q_iload rfl ?_
            refine m_ald (k := 24) (n := 16) S (by decide) (by omega) (by omega) ?_
            have e22 : 0 ≤ (F 42 ylp8_4.toNatClampNeg).toInt ∧ (F 42 ylp8_4.toNatClampNeg).toInt ≤ 1 := M.rg (lo := 0) (hi := 1) (by decide) _
            refine v_if_ne (fun d23 => ?_) (fun d23 => ?_)
            · skip
              refine xR.blk c122_96 ?_
              refine q_iload rfl ?_
              refine q_goto ?_
              exact (jn11 sjn16_0 ylp8_3 (by omega) (by omega)).up (by omega)
            · skip
              refine q_iload rfl ?_
              refine q_goto ?_
              exact (jn11 sjn16_0 ylp8_4 (by omega) (by omega)).up (by omega)
      refine xR.blk c122_10 ?_
      refine q_iload rfl ?_
      refine v_if_lt (fun d24 => ?_) (fun d24 => ?_)
      · skip
        refine xR.blk c122_104 ?_
        refine q_iload rfl ?_
        exact q_iret (hZ _ _ ⟨rfl, ⟨_, rfl, by omega⟩⟩)
      · skip
        refine q_aload rfl (by decide) ?_
        refine m_gfr S (n := 16) (by decide) ?_
        refine q_iload rfl ?_
        refine m_ald (k := 21) (n := 16) S (by decide) (by omega) (by omega) ?_
        refine q_iload rfl ?_
        refine v_icmp_ne (fun d25 => ?_) (fun d25 => ?_)
        · skip
          refine xR.blk c122_37 ?_
          refine q_aload rfl (by decide) ?_
          refine m_gfr S (n := 16) (by decide) ?_
          refine q_iload rfl ?_
          refine m_ald (k := 21) (n := 16) S (by decide) (by omega) (by omega) ?_
          refine q_iload rfl ?_
          refine v_icmp_ne (fun d26 => ?_) (fun d26 => ?_)
          · skip
            refine xR.blk c122_63 ?_
            refine v_iconst (k := 0) rfl (fun v27 e28 => ?_)
            refine q_goto ?_
            exact (jn16 v27 (by omega)).up (by omega)
          · skip
            refine q_aload rfl (by decide) ?_
            refine m_gfr S (n := 16) (by decide) ?_
            refine q_iload rfl ?_
            refine m_ald (k := 22) (n := 16) S (by decide) (by omega) (by omega) ?_
            refine q_iload rfl ?_
            refine v_icmp_ne (fun d29 => ?_) (fun d29 => ?_)
            · skip
              refine xR.blk c122_63 ?_
              refine v_iconst (k := 0) rfl (fun v30 e31 => ?_)
              refine q_goto ?_
              exact (jn16 v30 (by omega)).up (by omega)
            · skip
              refine q_goto ?_
              refine xR.blk c122_59 ?_
              refine v_iconst (k := 1) rfl (fun v32 e33 => ?_)
              refine q_goto ?_
              exact (jn16 v32 (by omega)).up (by omega)
        · skip
          refine q_aload rfl (by decide) ?_
          refine m_gfr S (n := 16) (by decide) ?_
          refine q_iload rfl ?_
          refine m_ald (k := 22) (n := 16) S (by decide) (by omega) (by omega) ?_
          refine q_iload rfl ?_
          refine v_icmp_eq (fun d34 => ?_) (fun d34 => ?_)
          · skip
            refine xR.blk c122_59 ?_
            refine v_iconst (k := 1) rfl (fun v35 e36 => ?_)
            refine q_goto ?_
            exact (jn16 v35 (by omega)).up (by omega)
          · skip
            refine q_goto ?_
            refine xR.blk c122_37 ?_
            refine q_aload rfl (by decide) ?_
            refine m_gfr S (n := 16) (by decide) ?_
            refine q_iload rfl ?_
            refine m_ald (k := 21) (n := 16) S (by decide) (by omega) (by omega) ?_
            refine q_iload rfl ?_
            refine v_icmp_ne (fun d37 => ?_) (fun d37 => ?_)
            · skip
              refine xR.blk c122_63 ?_
              refine v_iconst (k := 0) rfl (fun v38 e39 => ?_)
              refine q_goto ?_
              exact (jn16 v38 (by omega)).up (by omega)
            · skip
              refine q_aload rfl (by decide) ?_
              refine m_gfr S (n := 16) (by decide) ?_
              refine q_iload rfl ?_
              refine m_ald (k := 22) (n := 16) S (by decide) (by omega) (by omega) ?_
              refine q_iload rfl ?_
              refine v_icmp_ne (fun d40 => ?_) (fun d40 => ?_)
              · skip
                refine xR.blk c122_63 ?_
                refine v_iconst (k := 0) rfl (fun v41 e42 => ?_)
                refine q_goto ?_
                exact (jn16 v41 (by omega)).up (by omega)
              · skip
                refine q_goto ?_
                refine xR.blk c122_59 ?_
                refine v_iconst (k := 1) rfl (fun v43 e44 => ?_)
                refine q_goto ?_
                exact (jn16 v43 (by omega)).up (by omega)
  exact (lp8 17 v1 v6 (.inr (.inr (0, 0))) (by omega) (by omega) (by omega)).up (by omega)
